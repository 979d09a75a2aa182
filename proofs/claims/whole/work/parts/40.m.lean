/-! METHODS (printed by gen/build.py): Mo_layCaught Mo_placed Mo_seen Mo_forget Mo_turnOf Mo_fallsOn Mo_canBe Mo_inDigits Mo_layFalls Mo_settings Mo_look -/
theorem d_Mo_layCaught_0 : decode (yB Y_Mo_layCaught) 0 = .ok (.iconst 0, 1) := by decide +kernel
theorem d_Mo_layCaught_1 : decode (yB Y_Mo_layCaught) 1 = .ok (.istore_n 2, 1) := by decide +kernel
theorem d_Mo_layCaught_2 : decode (yB Y_Mo_layCaught) 2 = .ok (.iload_n 2, 1) := by decide +kernel
theorem d_Mo_layCaught_3 : decode (yB Y_Mo_layCaught) 3 = .ok (.bipush 24, 2) := by decide +kernel
theorem d_Mo_layCaught_5 : decode (yB Y_Mo_layCaught) 5 = .ok (.if_icmp .ge 16, 3) := by decide +kernel
theorem d_Mo_layCaught_8 : decode (yB Y_Mo_layCaught) 8 = .ok (.aload_n 0, 1) := by decide +kernel
theorem d_Mo_layCaught_9 : decode (yB Y_Mo_layCaught) 9 = .ok (.getfield 115, 3) := by decide +kernel
theorem d_Mo_layCaught_12 : decode (yB Y_Mo_layCaught) 12 = .ok (.iload_n 2, 1) := by decide +kernel
theorem d_Mo_layCaught_13 : decode (yB Y_Mo_layCaught) 13 = .ok (.iconst (-1), 1) := by decide +kernel
theorem d_Mo_layCaught_14 : decode (yB Y_Mo_layCaught) 14 = .ok (.iastore, 1) := by decide +kernel
theorem d_Mo_layCaught_15 : decode (yB Y_Mo_layCaught) 15 = .ok (.iinc 2 1, 3) := by decide +kernel
theorem d_Mo_layCaught_18 : decode (yB Y_Mo_layCaught) 18 = .ok (.goto (-16), 3) := by decide +kernel
theorem d_Mo_layCaught_21 : decode (yB Y_Mo_layCaught) 21 = .ok (.iconst 0, 1) := by decide +kernel
theorem d_Mo_layCaught_22 : decode (yB Y_Mo_layCaught) 22 = .ok (.istore_n 2, 1) := by decide +kernel
theorem d_Mo_layCaught_23 : decode (yB Y_Mo_layCaught) 23 = .ok (.iload_n 2, 1) := by decide +kernel
theorem d_Mo_layCaught_24 : decode (yB Y_Mo_layCaught) 24 = .ok (.aload_n 0, 1) := by decide +kernel
theorem d_Mo_layCaught_25 : decode (yB Y_Mo_layCaught) 25 = .ok (.getfield 13, 3) := by decide +kernel
theorem d_Mo_layCaught_28 : decode (yB Y_Mo_layCaught) 28 = .ok (.iconst 0, 1) := by decide +kernel
theorem d_Mo_layCaught_29 : decode (yB Y_Mo_layCaught) 29 = .ok (.iaload, 1) := by decide +kernel
theorem d_Mo_layCaught_30 : decode (yB Y_Mo_layCaught) 30 = .ok (.if_icmp .ge 104, 3) := by decide +kernel
theorem d_Mo_layCaught_33 : decode (yB Y_Mo_layCaught) 33 = .ok (.iconst 0, 1) := by decide +kernel
theorem d_Mo_layCaught_34 : decode (yB Y_Mo_layCaught) 34 = .ok (.istore_n 3, 1) := by decide +kernel
theorem d_Mo_layCaught_35 : decode (yB Y_Mo_layCaught) 35 = .ok (.iload_n 3, 1) := by decide +kernel
theorem d_Mo_layCaught_36 : decode (yB Y_Mo_layCaught) 36 = .ok (.bipush 8, 2) := by decide +kernel
theorem d_Mo_layCaught_38 : decode (yB Y_Mo_layCaught) 38 = .ok (.if_icmp .ge 90, 3) := by decide +kernel
theorem d_Mo_layCaught_41 : decode (yB Y_Mo_layCaught) 41 = .ok (.aload_n 0, 1) := by decide +kernel
theorem d_Mo_layCaught_42 : decode (yB Y_Mo_layCaught) 42 = .ok (.iload_n 2, 1) := by decide +kernel
theorem d_Mo_layCaught_43 : decode (yB Y_Mo_layCaught) 43 = .ok (.iload_n 3, 1) := by decide +kernel
theorem d_Mo_layCaught_44 : decode (yB Y_Mo_layCaught) 44 = .ok (.invokevirtual 225, 3) := by decide +kernel
theorem d_Mo_layCaught_47 : decode (yB Y_Mo_layCaught) 47 = .ok (.ifCond .ne 75, 3) := by decide +kernel
theorem d_Mo_layCaught_50 : decode (yB Y_Mo_layCaught) 50 = .ok (.aload_n 0, 1) := by decide +kernel
theorem d_Mo_layCaught_51 : decode (yB Y_Mo_layCaught) 51 = .ok (.bipush 16, 2) := by decide +kernel
theorem d_Mo_layCaught_53 : decode (yB Y_Mo_layCaught) 53 = .ok (.invokevirtual 169, 3) := by decide +kernel
theorem d_Mo_layCaught_56 : decode (yB Y_Mo_layCaught) 56 = .ok (.aload_n 0, 1) := by decide +kernel
theorem d_Mo_layCaught_57 : decode (yB Y_Mo_layCaught) 57 = .ok (.getfield 13, 3) := by decide +kernel
theorem d_Mo_layCaught_60 : decode (yB Y_Mo_layCaught) 60 = .ok (.bipush 51, 2) := by decide +kernel
theorem d_Mo_layCaught_62 : decode (yB Y_Mo_layCaught) 62 = .ok (.iload_n 2, 1) := by decide +kernel
theorem d_Mo_layCaught_63 : decode (yB Y_Mo_layCaught) 63 = .ok (.iadd, 1) := by decide +kernel
theorem d_Mo_layCaught_64 : decode (yB Y_Mo_layCaught) 64 = .ok (.iload_n 3, 1) := by decide +kernel
theorem d_Mo_layCaught_65 : decode (yB Y_Mo_layCaught) 65 = .ok (.iastore, 1) := by decide +kernel
theorem d_Mo_layCaught_66 : decode (yB Y_Mo_layCaught) 66 = .ok (.iconst 0, 1) := by decide +kernel
theorem d_Mo_layCaught_67 : decode (yB Y_Mo_layCaught) 67 = .ok (.istore 4, 2) := by decide +kernel
theorem d_Mo_layCaught_69 : decode (yB Y_Mo_layCaught) 69 = .ok (.iconst 0, 1) := by decide +kernel
theorem d_Mo_layCaught_70 : decode (yB Y_Mo_layCaught) 70 = .ok (.istore 5, 2) := by decide +kernel
theorem d_Mo_layCaught_72 : decode (yB Y_Mo_layCaught) 72 = .ok (.iload 5, 2) := by decide +kernel
theorem d_Mo_layCaught_74 : decode (yB Y_Mo_layCaught) 74 = .ok (.iload_n 1, 1) := by decide +kernel
theorem d_Mo_layCaught_75 : decode (yB Y_Mo_layCaught) 75 = .ok (.if_icmp .ge 28, 3) := by decide +kernel
theorem d_Mo_layCaught_78 : decode (yB Y_Mo_layCaught) 78 = .ok (.iload 4, 2) := by decide +kernel
theorem d_Mo_layCaught_80 : decode (yB Y_Mo_layCaught) 80 = .ok (.aload_n 0, 1) := by decide +kernel
theorem d_Mo_layCaught_81 : decode (yB Y_Mo_layCaught) 81 = .ok (.iload_n 2, 1) := by decide +kernel
theorem d_Mo_layCaught_82 : decode (yB Y_Mo_layCaught) 82 = .ok (.aload_n 0, 1) := by decide +kernel
theorem d_Mo_layCaught_83 : decode (yB Y_Mo_layCaught) 83 = .ok (.iload_n 3, 1) := by decide +kernel
theorem d_Mo_layCaught_84 : decode (yB Y_Mo_layCaught) 84 = .ok (.invokevirtual 232, 3) := by decide +kernel
theorem d_Mo_layCaught_87 : decode (yB Y_Mo_layCaught) 87 = .ok (.invokevirtual 460, 3) := by decide +kernel
theorem d_Mo_layCaught_90 : decode (yB Y_Mo_layCaught) 90 = .ok (.iadd, 1) := by decide +kernel
theorem d_Mo_layCaught_91 : decode (yB Y_Mo_layCaught) 91 = .ok (.istore 4, 2) := by decide +kernel
theorem d_Mo_layCaught_93 : decode (yB Y_Mo_layCaught) 93 = .ok (.aload_n 0, 1) := by decide +kernel
theorem d_Mo_layCaught_94 : decode (yB Y_Mo_layCaught) 94 = .ok (.invokevirtual 463, 3) := by decide +kernel
theorem d_Mo_layCaught_97 : decode (yB Y_Mo_layCaught) 97 = .ok (.iinc 5 1, 3) := by decide +kernel
theorem d_Mo_layCaught_100 : decode (yB Y_Mo_layCaught) 100 = .ok (.goto (-28), 3) := by decide +kernel
theorem d_Mo_layCaught_103 : decode (yB Y_Mo_layCaught) 103 = .ok (.aload_n 0, 1) := by decide +kernel
theorem d_Mo_layCaught_104 : decode (yB Y_Mo_layCaught) 104 = .ok (.bipush 16, 2) := by decide +kernel
theorem d_Mo_layCaught_106 : decode (yB Y_Mo_layCaught) 106 = .ok (.invokevirtual 173, 3) := by decide +kernel
theorem d_Mo_layCaught_109 : decode (yB Y_Mo_layCaught) 109 = .ok (.aload_n 0, 1) := by decide +kernel
theorem d_Mo_layCaught_110 : decode (yB Y_Mo_layCaught) 110 = .ok (.getfield 115, 3) := by decide +kernel
theorem d_Mo_layCaught_113 : decode (yB Y_Mo_layCaught) 113 = .ok (.bipush 8, 2) := by decide +kernel
theorem d_Mo_layCaught_115 : decode (yB Y_Mo_layCaught) 115 = .ok (.iload_n 2, 1) := by decide +kernel
theorem d_Mo_layCaught_116 : decode (yB Y_Mo_layCaught) 116 = .ok (.imul, 1) := by decide +kernel
theorem d_Mo_layCaught_117 : decode (yB Y_Mo_layCaught) 117 = .ok (.iload_n 3, 1) := by decide +kernel
theorem d_Mo_layCaught_118 : decode (yB Y_Mo_layCaught) 118 = .ok (.iadd, 1) := by decide +kernel
theorem d_Mo_layCaught_119 : decode (yB Y_Mo_layCaught) 119 = .ok (.iload 4, 2) := by decide +kernel
theorem d_Mo_layCaught_121 : decode (yB Y_Mo_layCaught) 121 = .ok (.iastore, 1) := by decide +kernel
theorem d_Mo_layCaught_122 : decode (yB Y_Mo_layCaught) 122 = .ok (.iinc 3 1, 3) := by decide +kernel
theorem d_Mo_layCaught_125 : decode (yB Y_Mo_layCaught) 125 = .ok (.goto (-90), 3) := by decide +kernel
theorem d_Mo_layCaught_128 : decode (yB Y_Mo_layCaught) 128 = .ok (.iinc 2 1, 3) := by decide +kernel
theorem d_Mo_layCaught_131 : decode (yB Y_Mo_layCaught) 131 = .ok (.goto (-108), 3) := by decide +kernel
theorem d_Mo_layCaught_134 : decode (yB Y_Mo_layCaught) 134 = .ok (.return_, 1) := by decide +kernel
def F_Mo_layCaught_b122 (n : Nat) (E : zE) (S : zS) (r23 : Nat × Int32 × Int32 × zH → Option (zH)) (r35 : Nat × Int32 × Int32 × Int32 × zH → Option (zH)) (a0 : Nat) (x1 : Int32) (x2 : Int32) (x3 : Int32) (M : zH) : Option (zH) :=
  r35 (a0, x1, x2, x3 + 1, M)
def F_Mo_layCaught_L72 (n : Nat) (E : zE) (S : zS) (r23 : Nat × Int32 × Int32 × zH → Option (zH)) (r35 : Nat × Int32 × Int32 × Int32 × zH → Option (zH)) (r72 : Nat × Int32 × Int32 × Int32 × Int32 × Int32 × zH → Option (zH)) (a0 : Nat) (x1 : Int32) (x2 : Int32) (x3 : Int32) (x4 : Int32) (x5 : Int32) (M : zH) : Option (zH) :=
  if x1 ≤ x5 then
    (zck S a0 11).bind fun u_2 =>
    (F_Mo_putBack n E S a0 16 M).bind fun q_3 =>
    (zgR S a0 11 42).bind fun b_4 =>
    (zstI S q_3 b_4 ((8 * x2) + x3) x4).bind fun m_5 =>
    F_Mo_layCaught_b122 n E S r23 r35 a0 x1 x2 x3 m_5
  else
    (zck S a0 11).bind fun u_6 =>
    (F_Mo_flowOn n E S a0 x3 M).bind fun q_7 =>
    (F_Mo_catchIn n E S a0 x2 q_7.1 q_7.2).bind fun q_8 =>
    (F_Mo_turnAll n E S a0 q_8.2).bind fun q_9 =>
    r72 (a0, x1, x2, x3, x4 + q_8.1, x5 + 1, q_9)
def F_Mo_layCaught_b72 (n : Nat) (E : zE) (S : zS) (r23 : Nat × Int32 × Int32 × zH → Option (zH)) (r35 : Nat × Int32 × Int32 × Int32 × zH → Option (zH)) : Nat × Int32 × Int32 × Int32 × Int32 × Int32 × zH → Option (zH) := zfix (fun r72 s => F_Mo_layCaught_L72 n E S r23 r35 r72 s.1 s.2.1 s.2.2.1 s.2.2.2.1 s.2.2.2.2.1 s.2.2.2.2.2.1 s.2.2.2.2.2.2) n
def F_Mo_layCaught_L35 (n : Nat) (E : zE) (S : zS) (r23 : Nat × Int32 × Int32 × zH → Option (zH)) (r35 : Nat × Int32 × Int32 × Int32 × zH → Option (zH)) (a0 : Nat) (x1 : Int32) (x2 : Int32) (x3 : Int32) (M : zH) : Option (zH) :=
  if 8 ≤ x3 then
    r23 (a0, x1, x2 + 1, M)
  else
    (zck S a0 11).bind fun u_11 =>
    (F_Mo_isBarred n E S a0 x2 x3 M).bind fun q_12 =>
    if q_12.1 = true then
      F_Mo_layCaught_b122 n E S r23 r35 a0 x1 x2 x3 q_12.2
    else
      (F_Mo_keepAll n E S a0 16 q_12.2).bind fun q_14 =>
      (zgR S a0 11 3).bind fun b_15 =>
      (zstI S q_14 b_15 (51 + x2) x3).bind fun m_16 =>
      F_Mo_layCaught_b72 n E S r23 r35 (a0, x1, x2, x3, 0, 0, m_16)
def F_Mo_layCaught_b35 (n : Nat) (E : zE) (S : zS) (r23 : Nat × Int32 × Int32 × zH → Option (zH)) : Nat × Int32 × Int32 × Int32 × zH → Option (zH) := zfix (fun r35 s => F_Mo_layCaught_L35 n E S r23 r35 s.1 s.2.1 s.2.2.1 s.2.2.2.1 s.2.2.2.2) n
def F_Mo_layCaught_L23 (n : Nat) (E : zE) (S : zS) (r23 : Nat × Int32 × Int32 × zH → Option (zH)) (a0 : Nat) (x1 : Int32) (x2 : Int32) (M : zH) : Option (zH) :=
  (zgR S a0 11 3).bind fun b_17 =>
  (zldI S M b_17 0).bind fun v_18 =>
  if v_18 ≤ x2 then
    some (M)
  else
    F_Mo_layCaught_b35 n E S r23 (a0, x1, x2, 0, M)
def F_Mo_layCaught_b23 (n : Nat) (E : zE) (S : zS) : Nat × Int32 × Int32 × zH → Option (zH) := zfix (fun r23 s => F_Mo_layCaught_L23 n E S r23 s.1 s.2.1 s.2.2.1 s.2.2.2) n
def F_Mo_layCaught_L2 (n : Nat) (E : zE) (S : zS) (r2 : Nat × Int32 × Int32 × zH → Option (zH)) (a0 : Nat) (x1 : Int32) (x2 : Int32) (M : zH) : Option (zH) :=
  if 24 ≤ x2 then
    F_Mo_layCaught_b23 n E S (a0, x1, 0, M)
  else
    (zgR S a0 11 42).bind fun b_21 =>
    (zstI S M b_21 x2 (-1)).bind fun m_22 =>
    r2 (a0, x1, x2 + 1, m_22)
def F_Mo_layCaught_b2 (n : Nat) (E : zE) (S : zS) : Nat × Int32 × Int32 × zH → Option (zH) := zfix (fun r2 s => F_Mo_layCaught_L2 n E S r2 s.1 s.2.1 s.2.2.1 s.2.2.2) n
def F_Mo_layCaught (n : Nat) (E : zE) (S : zS) (a0 : Nat) (x1 : Int32) (M : zH) : Option (zH) :=
  F_Mo_layCaught_b2 n E S (a0, x1, 0, M)
theorem K_Mo_layCaught_b122 (n : Nat) (E : zE) (S : zS) (r23 : Nat × Int32 × Int32 × zH → Option (zH)) (r35 : Nat × Int32 × Int32 × Int32 × zH → Option (zH)) (a0 : Nat) (x1 : Int32) (x2 : Int32) (x3 : Int32) (M : zH) (M' : zH) (hr23 : ∀ (a0 : Nat) (x1 : Int32) (x2 : Int32) (M : zH), r23 (a0, x1, x2, M) = some M' → zG E Y_Mo_layCaught (none, S, M') 23 [(0, .ref a0), (1, .int x1), (2, .int x2)] [] S M 0 0) (hr35 : ∀ (a0 : Nat) (x1 : Int32) (x2 : Int32) (x3 : Int32) (M : zH), r35 (a0, x1, x2, x3, M) = some M' → zG E Y_Mo_layCaught (none, S, M') 35 [(0, .ref a0), (1, .int x1), (2, .int x2), (3, .int x3)] [] S M 0 0) (h : F_Mo_layCaught_b122 n E S r23 r35 a0 x1 x2 x3 M = some M') : zG E Y_Mo_layCaught (none, S, M') 122 [(0, .ref a0), (1, .int x1), (2, .int x2), (3, .int x3)] [] S M 0 0 := by
  unfold F_Mo_layCaught_b122 at h
  refine zi_iinc 3 (x3 + 1) [(3, .int (x3 + 1)), (0, .ref a0), (1, .int x1), (2, .int x2)] d_Mo_layCaught_122 rfl rfl (by decide) rfl ?_
  refine zi_goto (tgt := 35) d_Mo_layCaught_125 rfl ?_
  refine zi_lo [(0, .ref a0), (1, .int x1), (2, .int x2), (3, .int (x3 + 1))] [1, 2, 3, 0] rfl ?_
  exact hr35 a0 x1 x2 (x3 + 1) M h
theorem K_Mo_layCaught_L72 (n : Nat) (E : zE) (S : zS) (r23 : Nat × Int32 × Int32 × zH → Option (zH)) (r35 : Nat × Int32 × Int32 × Int32 × zH → Option (zH)) (r72 : Nat × Int32 × Int32 × Int32 × Int32 × Int32 × zH → Option (zH)) (a0 : Nat) (x1 : Int32) (x2 : Int32) (x3 : Int32) (x4 : Int32) (x5 : Int32) (M : zH) (M' : zH) (hr23 : ∀ (a0 : Nat) (x1 : Int32) (x2 : Int32) (M : zH), r23 (a0, x1, x2, M) = some M' → zG E Y_Mo_layCaught (none, S, M') 23 [(0, .ref a0), (1, .int x1), (2, .int x2)] [] S M 0 0) (hr35 : ∀ (a0 : Nat) (x1 : Int32) (x2 : Int32) (x3 : Int32) (M : zH), r35 (a0, x1, x2, x3, M) = some M' → zG E Y_Mo_layCaught (none, S, M') 35 [(0, .ref a0), (1, .int x1), (2, .int x2), (3, .int x3)] [] S M 0 0) (hr72 : ∀ (a0 : Nat) (x1 : Int32) (x2 : Int32) (x3 : Int32) (x4 : Int32) (x5 : Int32) (M : zH), r72 (a0, x1, x2, x3, x4, x5, M) = some M' → zG E Y_Mo_layCaught (none, S, M') 72 [(0, .ref a0), (1, .int x1), (2, .int x2), (3, .int x3), (4, .int x4), (5, .int x5)] [] S M 0 0) (h : F_Mo_layCaught_L72 n E S r23 r35 r72 a0 x1 x2 x3 x4 x5 M = some M') : zG E Y_Mo_layCaught (none, S, M') 72 [(0, .ref a0), (1, .int x1), (2, .int x2), (3, .int x3), (4, .int x4), (5, .int x5)] [] S M 0 0 := by
  unfold F_Mo_layCaught_L72 at h
  refine zi_iload 5 d_Mo_layCaught_72 rfl ?_
  refine zi_iload_n 1 d_Mo_layCaught_74 rfl ?_
  refine zi_icmp_ge (tgt := 103) d_Mo_layCaught_75 rfl (fun c_1 => ?_) (fun c_1 => ?_)
  · rw [if_pos c_1] at h
    refine zi_aload_n 0 d_Mo_layCaught_103 rfl ?_
    refine zi_bipush 16 d_Mo_layCaught_104 rfl ?_
    obtain ⟨u_2, eu_2, h⟩ := zbind h
    obtain ⟨q_3, eq_3, h⟩ := zbind h
    refine zo_virt (k' := 0) (n' := 0) 109 [.int 16] [] [] zkd_11 (zck_s eu_2) (C_Mo_putBack n E S a0 16 M q_3 eq_3) d_Mo_layCaught_106 tw_1412 tw_1409 tw_1411 ts_37 tw_13 dd_Mo_putBack ⟨Nat.le_of_ble_eq_true rfl, Nat.le_of_ble_eq_true rfl, Nat.le_of_ble_eq_true rfl, Nat.le_of_ble_eq_true rfl⟩ (Nat.le_of_ble_eq_true rfl) rfl rfl rfl rfl ?_
    refine zi_aload_n 0 d_Mo_layCaught_109 rfl ?_
    obtain ⟨b_4, eb_4, h⟩ := zbind h
    refine zo_getR 113 zkd_11 42 d_Mo_layCaught_110 eb_4 rfl tw_1271 rfl ?_
    refine zi_bipush 8 d_Mo_layCaught_113 rfl ?_
    refine zi_iload_n 2 d_Mo_layCaught_115 rfl ?_
    refine zi_imul d_Mo_layCaught_116 ?_
    refine zi_iload_n 3 d_Mo_layCaught_117 rfl ?_
    refine zi_iadd d_Mo_layCaught_118 ?_
    refine zi_iload 4 d_Mo_layCaught_119 rfl ?_
    obtain ⟨m_5, em_5, h⟩ := zbind h
    refine zo_iast 122 d_Mo_layCaught_121 em_5 rfl ?_
    refine zi_lo [(0, .ref a0), (1, .int x1), (2, .int x2), (3, .int x3)] [0, 1, 2, 3] rfl ?_
    exact K_Mo_layCaught_b122 n E S r23 r35 a0 x1 x2 x3 m_5 M' hr23 hr35 h
  · rw [if_neg c_1] at h
    refine zi_iload 4 d_Mo_layCaught_78 rfl ?_
    refine zi_aload_n 0 d_Mo_layCaught_80 rfl ?_
    refine zi_iload_n 2 d_Mo_layCaught_81 rfl ?_
    refine zi_aload_n 0 d_Mo_layCaught_82 rfl ?_
    refine zi_iload_n 3 d_Mo_layCaught_83 rfl ?_
    obtain ⟨u_6, eu_6, h⟩ := zbind h
    obtain ⟨q_7, eq_7, h⟩ := zbind h
    refine zo_virt (k' := 0) (n' := 0) 87 [.int x3] [.int x2, .ref a0, .int x4] [.int q_7.1, .int x2, .ref a0, .int x4] zkd_11 (zck_s eu_6) (C_Mo_flowOn n E S a0 x3 M q_7.1 q_7.2 eq_7) d_Mo_layCaught_84 tw_1523 tw_1520 tw_1522 ts_51 tw_13 dd_Mo_flowOn ⟨Nat.le_of_ble_eq_true rfl, Nat.le_of_ble_eq_true rfl, Nat.le_of_ble_eq_true rfl, Nat.le_of_ble_eq_true rfl⟩ (Nat.le_of_ble_eq_true rfl) rfl rfl rfl rfl ?_
    obtain ⟨q_8, eq_8, h⟩ := zbind h
    refine zo_virt (k' := 0) (n' := 0) 90 [.int x2, .int q_7.1] [.int x4] [.int q_8.1, .int x4] zkd_11 (zck_s eu_6) (C_Mo_catchIn n E S a0 x2 q_7.1 q_7.2 q_8.1 q_8.2 eq_8) d_Mo_layCaught_87 tw_1740 tw_1737 tw_1739 ts_86 tw_13 dd_Mo_catchIn ⟨Nat.le_of_ble_eq_true rfl, Nat.le_of_ble_eq_true rfl, Nat.le_of_ble_eq_true rfl, Nat.le_of_ble_eq_true rfl⟩ (Nat.le_of_ble_eq_true rfl) rfl rfl rfl rfl ?_
    refine zi_iadd d_Mo_layCaught_90 ?_
    refine zi_istore [(4, .int (x4 + q_8.1)), (0, .ref a0), (1, .int x1), (2, .int x2), (3, .int x3), (5, .int x5)] d_Mo_layCaught_91 (by decide) rfl ?_
    refine zi_aload_n 1 d_Mo_layCaught_93 rfl ?_
    obtain ⟨q_9, eq_9, h⟩ := zbind h
    refine zo_virt (k' := 0) (n' := 0) 97 [] [] [] zkd_11 (zck_s eu_6) (C_Mo_turnAll n E S a0 q_8.2 q_9 eq_9) d_Mo_layCaught_94 tw_1744 tw_1741 tw_1743 ts_87 tw_13 dd_Mo_turnAll ⟨Nat.le_of_ble_eq_true rfl, Nat.le_of_ble_eq_true rfl, Nat.le_of_ble_eq_true rfl, Nat.le_of_ble_eq_true rfl⟩ (Nat.le_of_ble_eq_true rfl) rfl rfl rfl rfl ?_
    refine zi_iinc 5 (x5 + 1) [(5, .int (x5 + 1)), (4, .int (x4 + q_8.1)), (0, .ref a0), (1, .int x1), (2, .int x2), (3, .int x3)] d_Mo_layCaught_97 rfl rfl (by decide) rfl ?_
    refine zi_goto (tgt := 72) d_Mo_layCaught_100 rfl ?_
    refine zi_lo [(0, .ref a0), (1, .int x1), (2, .int x2), (3, .int x3), (4, .int (x4 + q_8.1)), (5, .int (x5 + 1))] [2, 3, 4, 5, 1, 0] rfl ?_
    exact hr72 a0 x1 x2 x3 (x4 + q_8.1) (x5 + 1) q_9 h
theorem K_Mo_layCaught_b72 (n : Nat) (E : zE) (S : zS) (r23 : Nat × Int32 × Int32 × zH → Option (zH)) (r35 : Nat × Int32 × Int32 × Int32 × zH → Option (zH)) (a0 : Nat) (x1 : Int32) (x2 : Int32) (x3 : Int32) (x4 : Int32) (x5 : Int32) (M : zH) (M' : zH) (hr23 : ∀ (a0 : Nat) (x1 : Int32) (x2 : Int32) (M : zH), r23 (a0, x1, x2, M) = some M' → zG E Y_Mo_layCaught (none, S, M') 23 [(0, .ref a0), (1, .int x1), (2, .int x2)] [] S M 0 0) (hr35 : ∀ (a0 : Nat) (x1 : Int32) (x2 : Int32) (x3 : Int32) (M : zH), r35 (a0, x1, x2, x3, M) = some M' → zG E Y_Mo_layCaught (none, S, M') 35 [(0, .ref a0), (1, .int x1), (2, .int x2), (3, .int x3)] [] S M 0 0) (h : F_Mo_layCaught_b72 n E S r23 r35 (a0, x1, x2, x3, x4, x5, M) = some M') : zG E Y_Mo_layCaught (none, S, M') 72 [(0, .ref a0), (1, .int x1), (2, .int x2), (3, .int x3), (4, .int x4), (5, .int x5)] [] S M 0 0 := by
  have key : ∀ (k : Nat) (a0 : Nat) (x1 : Int32) (x2 : Int32) (x3 : Int32) (x4 : Int32) (x5 : Int32) (M : zH), zfix (fun r72 s => F_Mo_layCaught_L72 n E S r23 r35 r72 s.1 s.2.1 s.2.2.1 s.2.2.2.1 s.2.2.2.2.1 s.2.2.2.2.2.1 s.2.2.2.2.2.2) k (a0, x1, x2, x3, x4, x5, M) = some M' → zG E Y_Mo_layCaught (none, S, M') 72 [(0, .ref a0), (1, .int x1), (2, .int x2), (3, .int x3), (4, .int x4), (5, .int x5)] [] S M 0 0 := by
    intro k
    induction k with
    | zero => intro a0 x1 x2 x3 x4 x5 M h; cases h
    | succ k ih => intro a0 x1 x2 x3 x4 x5 M h; exact K_Mo_layCaught_L72 n E S r23 r35 _ a0 x1 x2 x3 x4 x5 M M' hr23 hr35 (fun a0 x1 x2 x3 x4 x5 M h => ih a0 x1 x2 x3 x4 x5 M h) h
  exact key n a0 x1 x2 x3 x4 x5 M h
theorem K_Mo_layCaught_L35 (n : Nat) (E : zE) (S : zS) (r23 : Nat × Int32 × Int32 × zH → Option (zH)) (r35 : Nat × Int32 × Int32 × Int32 × zH → Option (zH)) (a0 : Nat) (x1 : Int32) (x2 : Int32) (x3 : Int32) (M : zH) (M' : zH) (hr23 : ∀ (a0 : Nat) (x1 : Int32) (x2 : Int32) (M : zH), r23 (a0, x1, x2, M) = some M' → zG E Y_Mo_layCaught (none, S, M') 23 [(0, .ref a0), (1, .int x1), (2, .int x2)] [] S M 0 0) (hr35 : ∀ (a0 : Nat) (x1 : Int32) (x2 : Int32) (x3 : Int32) (M : zH), r35 (a0, x1, x2, x3, M) = some M' → zG E Y_Mo_layCaught (none, S, M') 35 [(0, .ref a0), (1, .int x1), (2, .int x2), (3, .int x3)] [] S M 0 0) (h : F_Mo_layCaught_L35 n E S r23 r35 a0 x1 x2 x3 M = some M') : zG E Y_Mo_layCaught (none, S, M') 35 [(0, .ref a0), (1, .int x1), (2, .int x2), (3, .int x3)] [] S M 0 0 := by
  unfold F_Mo_layCaught_L35 at h
  refine zi_iload_n 3 d_Mo_layCaught_35 rfl ?_
  refine zi_bipush 8 d_Mo_layCaught_36 rfl ?_
  refine zi_icmp_ge (tgt := 128) d_Mo_layCaught_38 rfl (fun c_10 => ?_) (fun c_10 => ?_)
  · rw [if_pos c_10] at h
    refine zi_iinc 2 (x2 + 1) [(2, .int (x2 + 1)), (0, .ref a0), (1, .int x1), (3, .int x3)] d_Mo_layCaught_128 rfl rfl (by decide) rfl ?_
    refine zi_goto (tgt := 23) d_Mo_layCaught_131 rfl ?_
    refine zi_lo [(0, .ref a0), (1, .int x1), (2, .int (x2 + 1))] [1, 2, 0] rfl ?_
    exact hr23 a0 x1 (x2 + 1) M h
  · rw [if_neg c_10] at h
    refine zi_aload_n 0 d_Mo_layCaught_41 rfl ?_
    refine zi_iload_n 2 d_Mo_layCaught_42 rfl ?_
    refine zi_iload_n 3 d_Mo_layCaught_43 rfl ?_
    obtain ⟨u_11, eu_11, h⟩ := zbind h
    obtain ⟨q_12, eq_12, h⟩ := zbind h
    refine zo_virt (k' := 0) (n' := 0) 47 [.int x2, .int x3] [] [.int (bI q_12.1)] zkd_11 (zck_s eu_11) (C_Mo_isBarred n E S a0 x2 x3 M q_12.1 q_12.2 eq_12) d_Mo_layCaught_44 tw_1510 tw_1507 tw_1509 ts_50 tw_13 dd_Mo_isBarred ⟨Nat.le_of_ble_eq_true rfl, Nat.le_of_ble_eq_true rfl, Nat.le_of_ble_eq_true rfl, Nat.le_of_ble_eq_true rfl⟩ (Nat.le_of_ble_eq_true rfl) rfl rfl rfl rfl ?_
    refine zo_ifneB d_Mo_layCaught_47 rfl 50 rfl (fun c_13 => ?_) (fun c_13 => ?_)
    · rw [if_pos c_13] at h
      refine zi_lo [(0, .ref a0), (1, .int x1), (2, .int x2), (3, .int x3)] [0, 1, 2, 3] rfl ?_
      exact K_Mo_layCaught_b122 n E S r23 r35 a0 x1 x2 x3 q_12.2 M' hr23 hr35 h
    · rw [if_neg c_13] at h
      refine zi_aload_n 0 d_Mo_layCaught_50 rfl ?_
      refine zi_bipush 16 d_Mo_layCaught_51 rfl ?_
      obtain ⟨q_14, eq_14, h⟩ := zbind h
      refine zo_virt (k' := 0) (n' := 0) 56 [.int 16] [] [] zkd_11 (zck_s eu_11) (C_Mo_keepAll n E S a0 16 q_12.2 q_14 eq_14) d_Mo_layCaught_53 tw_1704 tw_1701 tw_1703 ts_80 tw_13 dd_Mo_keepAll ⟨Nat.le_of_ble_eq_true rfl, Nat.le_of_ble_eq_true rfl, Nat.le_of_ble_eq_true rfl, Nat.le_of_ble_eq_true rfl⟩ (Nat.le_of_ble_eq_true rfl) rfl rfl rfl rfl ?_
      refine zi_aload_n 0 d_Mo_layCaught_56 rfl ?_
      obtain ⟨b_15, eb_15, h⟩ := zbind h
      refine zo_getR 60 zkd_11 3 d_Mo_layCaught_57 eb_15 rfl tw_1232 rfl ?_
      refine zi_bipush 51 d_Mo_layCaught_60 rfl ?_
      refine zi_iload_n 2 d_Mo_layCaught_62 rfl ?_
      refine zi_iadd d_Mo_layCaught_63 ?_
      refine zi_iload_n 3 d_Mo_layCaught_64 rfl ?_
      obtain ⟨m_16, em_16, h⟩ := zbind h
      refine zo_iast 66 d_Mo_layCaught_65 em_16 rfl ?_
      refine zi_iconst 0 d_Mo_layCaught_66 rfl ?_
      refine zi_istore [(4, .int 0), (0, .ref a0), (1, .int x1), (2, .int x2), (3, .int x3)] d_Mo_layCaught_67 (by decide) rfl ?_
      refine zi_iconst 0 d_Mo_layCaught_69 rfl ?_
      refine zi_istore [(5, .int 0), (4, .int 0), (0, .ref a0), (1, .int x1), (2, .int x2), (3, .int x3)] d_Mo_layCaught_70 (by decide) rfl ?_
      refine zi_lo [(0, .ref a0), (1, .int x1), (2, .int x2), (3, .int x3), (4, .int 0), (5, .int 0)] [2, 3, 4, 5, 1, 0] rfl ?_
      exact K_Mo_layCaught_b72 n E S r23 r35 a0 x1 x2 x3 0 0 m_16 M' hr23 hr35 h
theorem K_Mo_layCaught_b35 (n : Nat) (E : zE) (S : zS) (r23 : Nat × Int32 × Int32 × zH → Option (zH)) (a0 : Nat) (x1 : Int32) (x2 : Int32) (x3 : Int32) (M : zH) (M' : zH) (hr23 : ∀ (a0 : Nat) (x1 : Int32) (x2 : Int32) (M : zH), r23 (a0, x1, x2, M) = some M' → zG E Y_Mo_layCaught (none, S, M') 23 [(0, .ref a0), (1, .int x1), (2, .int x2)] [] S M 0 0) (h : F_Mo_layCaught_b35 n E S r23 (a0, x1, x2, x3, M) = some M') : zG E Y_Mo_layCaught (none, S, M') 35 [(0, .ref a0), (1, .int x1), (2, .int x2), (3, .int x3)] [] S M 0 0 := by
  have key : ∀ (k : Nat) (a0 : Nat) (x1 : Int32) (x2 : Int32) (x3 : Int32) (M : zH), zfix (fun r35 s => F_Mo_layCaught_L35 n E S r23 r35 s.1 s.2.1 s.2.2.1 s.2.2.2.1 s.2.2.2.2) k (a0, x1, x2, x3, M) = some M' → zG E Y_Mo_layCaught (none, S, M') 35 [(0, .ref a0), (1, .int x1), (2, .int x2), (3, .int x3)] [] S M 0 0 := by
    intro k
    induction k with
    | zero => intro a0 x1 x2 x3 M h; cases h
    | succ k ih => intro a0 x1 x2 x3 M h; exact K_Mo_layCaught_L35 n E S r23 _ a0 x1 x2 x3 M M' hr23 (fun a0 x1 x2 x3 M h => ih a0 x1 x2 x3 M h) h
  exact key n a0 x1 x2 x3 M h
theorem K_Mo_layCaught_L23 (n : Nat) (E : zE) (S : zS) (r23 : Nat × Int32 × Int32 × zH → Option (zH)) (a0 : Nat) (x1 : Int32) (x2 : Int32) (M : zH) (M' : zH) (hr23 : ∀ (a0 : Nat) (x1 : Int32) (x2 : Int32) (M : zH), r23 (a0, x1, x2, M) = some M' → zG E Y_Mo_layCaught (none, S, M') 23 [(0, .ref a0), (1, .int x1), (2, .int x2)] [] S M 0 0) (h : F_Mo_layCaught_L23 n E S r23 a0 x1 x2 M = some M') : zG E Y_Mo_layCaught (none, S, M') 23 [(0, .ref a0), (1, .int x1), (2, .int x2)] [] S M 0 0 := by
  unfold F_Mo_layCaught_L23 at h
  refine zi_iload_n 2 d_Mo_layCaught_23 rfl ?_
  refine zi_aload_n 0 d_Mo_layCaught_24 rfl ?_
  obtain ⟨b_17, eb_17, h⟩ := zbind h
  refine zo_getR 28 zkd_11 3 d_Mo_layCaught_25 eb_17 rfl tw_1232 rfl ?_
  refine zi_iconst 0 d_Mo_layCaught_28 rfl ?_
  obtain ⟨v_18, ev_18, h⟩ := zbind h
  refine zo_iald 30 d_Mo_layCaught_29 ev_18 rfl ?_
  refine zi_icmp_ge (tgt := 134) d_Mo_layCaught_30 rfl (fun c_19 => ?_) (fun c_19 => ?_)
  · rw [if_pos c_19] at h
    cases h
    exact zo_ret d_Mo_layCaught_134 (Nat.le_of_ble_eq_true rfl) (Nat.le_of_ble_eq_true rfl) rfl
  · rw [if_neg c_19] at h
    refine zi_iconst 0 d_Mo_layCaught_33 rfl ?_
    refine zi_istore_n [(3, .int 0), (0, .ref a0), (1, .int x1), (2, .int x2)] d_Mo_layCaught_34 (by decide) rfl ?_
    refine zi_lo [(0, .ref a0), (1, .int x1), (2, .int x2), (3, .int 0)] [1, 2, 3, 0] rfl ?_
    exact K_Mo_layCaught_b35 n E S r23 a0 x1 x2 0 M M' hr23 h
theorem K_Mo_layCaught_b23 (n : Nat) (E : zE) (S : zS) (a0 : Nat) (x1 : Int32) (x2 : Int32) (M : zH) (M' : zH)  (h : F_Mo_layCaught_b23 n E S (a0, x1, x2, M) = some M') : zG E Y_Mo_layCaught (none, S, M') 23 [(0, .ref a0), (1, .int x1), (2, .int x2)] [] S M 0 0 := by
  have key : ∀ (k : Nat) (a0 : Nat) (x1 : Int32) (x2 : Int32) (M : zH), zfix (fun r23 s => F_Mo_layCaught_L23 n E S r23 s.1 s.2.1 s.2.2.1 s.2.2.2) k (a0, x1, x2, M) = some M' → zG E Y_Mo_layCaught (none, S, M') 23 [(0, .ref a0), (1, .int x1), (2, .int x2)] [] S M 0 0 := by
    intro k
    induction k with
    | zero => intro a0 x1 x2 M h; cases h
    | succ k ih => intro a0 x1 x2 M h; exact K_Mo_layCaught_L23 n E S _ a0 x1 x2 M M'  (fun a0 x1 x2 M h => ih a0 x1 x2 M h) h
  exact key n a0 x1 x2 M h
theorem K_Mo_layCaught_L2 (n : Nat) (E : zE) (S : zS) (r2 : Nat × Int32 × Int32 × zH → Option (zH)) (a0 : Nat) (x1 : Int32) (x2 : Int32) (M : zH) (M' : zH) (hr2 : ∀ (a0 : Nat) (x1 : Int32) (x2 : Int32) (M : zH), r2 (a0, x1, x2, M) = some M' → zG E Y_Mo_layCaught (none, S, M') 2 [(0, .ref a0), (1, .int x1), (2, .int x2)] [] S M 0 0) (h : F_Mo_layCaught_L2 n E S r2 a0 x1 x2 M = some M') : zG E Y_Mo_layCaught (none, S, M') 2 [(0, .ref a0), (1, .int x1), (2, .int x2)] [] S M 0 0 := by
  unfold F_Mo_layCaught_L2 at h
  refine zi_iload_n 2 d_Mo_layCaught_2 rfl ?_
  refine zi_bipush 24 d_Mo_layCaught_3 rfl ?_
  refine zi_icmp_ge (tgt := 21) d_Mo_layCaught_5 rfl (fun c_20 => ?_) (fun c_20 => ?_)
  · rw [if_pos c_20] at h
    refine zi_iconst 0 d_Mo_layCaught_21 rfl ?_
    refine zi_istore_n [(2, .int 0), (0, .ref a0), (1, .int x1)] d_Mo_layCaught_22 (by decide) rfl ?_
    refine zi_lo [(0, .ref a0), (1, .int x1), (2, .int 0)] [1, 2, 0] rfl ?_
    exact K_Mo_layCaught_b23 n E S a0 x1 0 M M'  h
  · rw [if_neg c_20] at h
    refine zi_aload_n 0 d_Mo_layCaught_8 rfl ?_
    obtain ⟨b_21, eb_21, h⟩ := zbind h
    refine zo_getR 12 zkd_11 42 d_Mo_layCaught_9 eb_21 rfl tw_1271 rfl ?_
    refine zi_iload_n 2 d_Mo_layCaught_12 rfl ?_
    refine zi_iconst (-1) d_Mo_layCaught_13 rfl ?_
    obtain ⟨m_22, em_22, h⟩ := zbind h
    refine zo_iast 15 d_Mo_layCaught_14 em_22 rfl ?_
    refine zi_iinc 2 (x2 + 1) [(2, .int (x2 + 1)), (0, .ref a0), (1, .int x1)] d_Mo_layCaught_15 rfl rfl (by decide) rfl ?_
    refine zi_goto (tgt := 2) d_Mo_layCaught_18 rfl ?_
    refine zi_lo [(0, .ref a0), (1, .int x1), (2, .int (x2 + 1))] [1, 2, 0] rfl ?_
    exact hr2 a0 x1 (x2 + 1) m_22 h
theorem K_Mo_layCaught_b2 (n : Nat) (E : zE) (S : zS) (a0 : Nat) (x1 : Int32) (x2 : Int32) (M : zH) (M' : zH)  (h : F_Mo_layCaught_b2 n E S (a0, x1, x2, M) = some M') : zG E Y_Mo_layCaught (none, S, M') 2 [(0, .ref a0), (1, .int x1), (2, .int x2)] [] S M 0 0 := by
  have key : ∀ (k : Nat) (a0 : Nat) (x1 : Int32) (x2 : Int32) (M : zH), zfix (fun r2 s => F_Mo_layCaught_L2 n E S r2 s.1 s.2.1 s.2.2.1 s.2.2.2) k (a0, x1, x2, M) = some M' → zG E Y_Mo_layCaught (none, S, M') 2 [(0, .ref a0), (1, .int x1), (2, .int x2)] [] S M 0 0 := by
    intro k
    induction k with
    | zero => intro a0 x1 x2 M h; cases h
    | succ k ih => intro a0 x1 x2 M h; exact K_Mo_layCaught_L2 n E S _ a0 x1 x2 M M'  (fun a0 x1 x2 M h => ih a0 x1 x2 M h) h
  exact key n a0 x1 x2 M h
theorem K_Mo_layCaught (n : Nat) (E : zE) (S : zS) (a0 : Nat) (x1 : Int32) (M : zH) (M' : zH)  (h : F_Mo_layCaught n E S a0 x1 M = some M') : zG E Y_Mo_layCaught (none, S, M') 0 [(0, .ref a0), (1, .int x1)] [] S M 0 0 := by
  unfold F_Mo_layCaught at h
  refine zi_iconst 0 d_Mo_layCaught_0 rfl ?_
  refine zi_istore_n [(2, .int 0), (0, .ref a0), (1, .int x1)] d_Mo_layCaught_1 (by decide) rfl ?_
  refine zi_lo [(0, .ref a0), (1, .int x1), (2, .int 0)] [1, 2, 0] rfl ?_
  exact K_Mo_layCaught_b2 n E S a0 x1 0 M M'  h
theorem C_Mo_layCaught (n : Nat) (E : zE) (S : zS) (a0 : Nat) (x1 : Int32) (M : zH) (M' : zH) (h : F_Mo_layCaught n E S a0 x1 M = some M') : zC E Y_Mo_layCaught [.ref a0, .int x1] S M (none, S, M') :=
  zC.of (Or.inl (show plainName "NightColanderModel" = true by decide)) (Nat.le_of_ble_eq_true rfl) (trivial) (K_Mo_layCaught n E S a0 x1 M M' h)
theorem d_Mo_placed_0 : decode (yB Y_Mo_placed) 0 = .ok (.aload_n 0, 1) := by decide +kernel
theorem d_Mo_placed_1 : decode (yB Y_Mo_placed) 1 = .ok (.iconst 0, 1) := by decide +kernel
theorem d_Mo_placed_2 : decode (yB Y_Mo_placed) 2 = .ok (.putfield 156, 3) := by decide +kernel
theorem d_Mo_placed_5 : decode (yB Y_Mo_placed) 5 = .ok (.iload_n 1, 1) := by decide +kernel
theorem d_Mo_placed_6 : decode (yB Y_Mo_placed) 6 = .ok (.i2l, 1) := by decide +kernel
theorem d_Mo_placed_7 : decode (yB Y_Mo_placed) 7 = .ok (.lconst 1, 1) := by decide +kernel
theorem d_Mo_placed_8 : decode (yB Y_Mo_placed) 8 = .ok (.ldc2_w 237, 3) := by decide +kernel
theorem d_Mo_placed_11 : decode (yB Y_Mo_placed) 11 = .ok (.invokestatic 176, 3) := by decide +kernel
theorem d_Mo_placed_14 : decode (yB Y_Mo_placed) 14 = .ok (.ifCond .eq 19, 3) := by decide +kernel
theorem d_Mo_placed_17 : decode (yB Y_Mo_placed) 17 = .ok (.iload_n 2, 1) := by decide +kernel
theorem d_Mo_placed_18 : decode (yB Y_Mo_placed) 18 = .ok (.i2l, 1) := by decide +kernel
theorem d_Mo_placed_19 : decode (yB Y_Mo_placed) 19 = .ok (.lconst 0, 1) := by decide +kernel
theorem d_Mo_placed_20 : decode (yB Y_Mo_placed) 20 = .ok (.aload_n 0, 1) := by decide +kernel
theorem d_Mo_placed_21 : decode (yB Y_Mo_placed) 21 = .ok (.getfield 13, 3) := by decide +kernel
theorem d_Mo_placed_24 : decode (yB Y_Mo_placed) 24 = .ok (.iconst 0, 1) := by decide +kernel
theorem d_Mo_placed_25 : decode (yB Y_Mo_placed) 25 = .ok (.iaload, 1) := by decide +kernel
theorem d_Mo_placed_26 : decode (yB Y_Mo_placed) 26 = .ok (.i2l, 1) := by decide +kernel
theorem d_Mo_placed_27 : decode (yB Y_Mo_placed) 27 = .ok (.invokestatic 176, 3) := by decide +kernel
theorem d_Mo_placed_30 : decode (yB Y_Mo_placed) 30 = .ok (.ifCond .ne 5, 3) := by decide +kernel
theorem d_Mo_placed_33 : decode (yB Y_Mo_placed) 33 = .ok (.iconst (-1), 1) := by decide +kernel
theorem d_Mo_placed_34 : decode (yB Y_Mo_placed) 34 = .ok (.ireturn, 1) := by decide +kernel
theorem d_Mo_placed_35 : decode (yB Y_Mo_placed) 35 = .ok (.aload_n 0, 1) := by decide +kernel
theorem d_Mo_placed_36 : decode (yB Y_Mo_placed) 36 = .ok (.iload_n 1, 1) := by decide +kernel
theorem d_Mo_placed_37 : decode (yB Y_Mo_placed) 37 = .ok (.invokevirtual 475, 3) := by decide +kernel
theorem d_Mo_placed_40 : decode (yB Y_Mo_placed) 40 = .ok (.aload_n 0, 1) := by decide +kernel
theorem d_Mo_placed_41 : decode (yB Y_Mo_placed) 41 = .ok (.invokevirtual 478, 3) := by decide +kernel
theorem d_Mo_placed_44 : decode (yB Y_Mo_placed) 44 = .ok (.istore_n 3, 1) := by decide +kernel
theorem d_Mo_placed_45 : decode (yB Y_Mo_placed) 45 = .ok (.iload_n 3, 1) := by decide +kernel
theorem d_Mo_placed_46 : decode (yB Y_Mo_placed) 46 = .ok (.iconst (-1), 1) := by decide +kernel
theorem d_Mo_placed_47 : decode (yB Y_Mo_placed) 47 = .ok (.if_icmp .eq 7, 3) := by decide +kernel
theorem d_Mo_placed_50 : decode (yB Y_Mo_placed) 50 = .ok (.iload_n 2, 1) := by decide +kernel
theorem d_Mo_placed_51 : decode (yB Y_Mo_placed) 51 = .ok (.ifCond .ne 7, 3) := by decide +kernel
theorem d_Mo_placed_54 : decode (yB Y_Mo_placed) 54 = .ok (.iload_n 3, 1) := by decide +kernel
theorem d_Mo_placed_55 : decode (yB Y_Mo_placed) 55 = .ok (.goto 11, 3) := by decide +kernel
theorem d_Mo_placed_58 : decode (yB Y_Mo_placed) 58 = .ok (.aload_n 0, 1) := by decide +kernel
theorem d_Mo_placed_59 : decode (yB Y_Mo_placed) 59 = .ok (.getfield 121, 3) := by decide +kernel
theorem d_Mo_placed_62 : decode (yB Y_Mo_placed) 62 = .ok (.iload_n 2, 1) := by decide +kernel
theorem d_Mo_placed_63 : decode (yB Y_Mo_placed) 63 = .ok (.iconst 1, 1) := by decide +kernel
theorem d_Mo_placed_64 : decode (yB Y_Mo_placed) 64 = .ok (.isub, 1) := by decide +kernel
theorem d_Mo_placed_65 : decode (yB Y_Mo_placed) 65 = .ok (.iaload, 1) := by decide +kernel
theorem d_Mo_placed_66 : decode (yB Y_Mo_placed) 66 = .ok (.ireturn, 1) := by decide +kernel
def F_Mo_placed_b54 (n : Nat) (E : zE) (S : zS) (x3 : Int32) (M : zH) : Option (Int32 × zH) :=
  some (x3, M)
def F_Mo_placed (n : Nat) (E : zE) (S : zS) (a0 : Nat) (x1 : Int32) (x2 : Int32) (M : zH) : Option (Int32 × zH) :=
  (zpI S M a0 11 0 0).bind fun m_1 =>
  (F_Mo_in n E S x1.toInt64 1 9 m_1).bind fun q_2 =>
  if q_2.1 = true then
    (zgR S a0 11 3).bind fun b_4 =>
    (zldI S q_2.2 b_4 0).bind fun v_5 =>
    (F_Mo_in n E S x2.toInt64 0 v_5.toInt64 q_2.2).bind fun q_6 =>
    if q_6.1 = true then
      (F_Mo_layCaught n E S a0 x1 q_6.2).bind fun q_8 =>
      (F_Mo_findPlaced n E S a0 q_8).bind fun q_9 =>
      if q_9.1 = (-1) then
        F_Mo_placed_b54 n E S q_9.1 q_9.2
      else
        if x2 = 0 then
          F_Mo_placed_b54 n E S q_9.1 q_9.2
        else
          (zgR S a0 11 44).bind fun b_12 =>
          (zldI S q_9.2 b_12 (x2 - 1)).bind fun v_13 =>
          some (v_13, q_9.2)
    else
      some ((-1), q_6.2)
  else
    some ((-1), q_2.2)
theorem K_Mo_placed_b54 (n : Nat) (E : zE) (S : zS) (x3 : Int32) (M : zH) (r : Int32) (M' : zH)  (h : F_Mo_placed_b54 n E S x3 M = some (r, M')) : zG E Y_Mo_placed (some (.int r), S, M') 54 [(3, .int x3)] [] S M 0 0 := by
  unfold F_Mo_placed_b54 at h
  refine zi_iload_n 0 d_Mo_placed_54 rfl ?_
  refine zi_goto (tgt := 66) d_Mo_placed_55 rfl ?_
  cases h
  exact zo_ret d_Mo_placed_66 (Nat.le_of_ble_eq_true rfl) (Nat.le_of_ble_eq_true rfl) rfl
theorem K_Mo_placed (n : Nat) (E : zE) (S : zS) (a0 : Nat) (x1 : Int32) (x2 : Int32) (M : zH) (r : Int32) (M' : zH)  (h : F_Mo_placed n E S a0 x1 x2 M = some (r, M')) : zG E Y_Mo_placed (some (.int r), S, M') 0 [(0, .ref a0), (1, .int x1), (2, .int x2)] [] S M 0 0 := by
  unfold F_Mo_placed at h
  refine zi_aload_n 0 d_Mo_placed_0 rfl ?_
  refine zi_iconst 0 d_Mo_placed_1 rfl ?_
  obtain ⟨m_1, em_1, h⟩ := zbind h
  refine zo_putI 5 zkd_11 0 d_Mo_placed_2 em_1 rfl rfl rfl tw_1229 rfl ?_
  refine zi_iload_n 1 d_Mo_placed_5 rfl ?_
  refine zi_i2l d_Mo_placed_6 ?_
  refine zi_lconst 1 d_Mo_placed_7 rfl ?_
  refine zi_ldc2 d_Mo_placed_8 tw_1536 ?_
  obtain ⟨q_2, eq_2, h⟩ := zbind h
  refine zo_stat (k' := 0) (n' := 0) 14 [.long x1.toInt64, .long 1, .long 9] [] [.int (bI q_2.1)] (C_Mo_in n E S x1.toInt64 1 9 m_1 q_2.1 q_2.2 eq_2) d_Mo_placed_11 tw_1419 tw_1417 tw_1418 tw_13 dd_Mo_in ⟨Nat.le_of_ble_eq_true rfl, Nat.le_of_ble_eq_true rfl, Nat.le_of_ble_eq_true rfl, Nat.le_of_ble_eq_true rfl⟩ (Nat.le_of_ble_eq_true rfl) rfl rfl rfl rfl ?_
  refine zo_ifeqB d_Mo_placed_14 rfl 17 rfl (fun c_3 => ?_) (fun c_3 => ?_)
  · rw [if_neg c_3] at h
    refine zi_iconst (-1) d_Mo_placed_33 rfl ?_
    cases h
    exact zo_ret d_Mo_placed_34 (Nat.le_of_ble_eq_true rfl) (Nat.le_of_ble_eq_true rfl) rfl
  · rw [if_pos c_3] at h
    refine zi_iload_n 2 d_Mo_placed_17 rfl ?_
    refine zi_i2l d_Mo_placed_18 ?_
    refine zi_lconst 0 d_Mo_placed_19 rfl ?_
    refine zi_aload_n 0 d_Mo_placed_20 rfl ?_
    obtain ⟨b_4, eb_4, h⟩ := zbind h
    refine zo_getR 24 zkd_11 3 d_Mo_placed_21 eb_4 rfl tw_1232 rfl ?_
    refine zi_iconst 0 d_Mo_placed_24 rfl ?_
    obtain ⟨v_5, ev_5, h⟩ := zbind h
    refine zo_iald 26 d_Mo_placed_25 ev_5 rfl ?_
    refine zi_i2l d_Mo_placed_26 ?_
    obtain ⟨q_6, eq_6, h⟩ := zbind h
    refine zo_stat (k' := 0) (n' := 0) 30 [.long x2.toInt64, .long 0, .long v_5.toInt64] [] [.int (bI q_6.1)] (C_Mo_in n E S x2.toInt64 0 v_5.toInt64 q_2.2 q_6.1 q_6.2 eq_6) d_Mo_placed_27 tw_1419 tw_1417 tw_1418 tw_13 dd_Mo_in ⟨Nat.le_of_ble_eq_true rfl, Nat.le_of_ble_eq_true rfl, Nat.le_of_ble_eq_true rfl, Nat.le_of_ble_eq_true rfl⟩ (Nat.le_of_ble_eq_true rfl) rfl rfl rfl rfl ?_
    refine zo_ifneB d_Mo_placed_30 rfl 33 rfl (fun c_7 => ?_) (fun c_7 => ?_)
    · rw [if_pos c_7] at h
      refine zi_aload_n 0 d_Mo_placed_35 rfl ?_
      refine zi_iload_n 1 d_Mo_placed_36 rfl ?_
      obtain ⟨q_8, eq_8, h⟩ := zbind h
      refine zo_virt (k' := 0) (n' := 0) 40 [.int x1] [] [] zkd_11 (zgR_s eb_4).1 (C_Mo_layCaught n E S a0 x1 q_6.2 q_8 eq_8) d_Mo_placed_37 tw_1756 tw_1753 tw_1755 ts_88 tw_13 dd_Mo_layCaught ⟨Nat.le_of_ble_eq_true rfl, Nat.le_of_ble_eq_true rfl, Nat.le_of_ble_eq_true rfl, Nat.le_of_ble_eq_true rfl⟩ (Nat.le_of_ble_eq_true rfl) rfl rfl rfl rfl ?_
      refine zi_aload_n 0 d_Mo_placed_40 rfl ?_
      obtain ⟨q_9, eq_9, h⟩ := zbind h
      refine zo_virt (k' := 0) (n' := 0) 44 [] [] [.int q_9.1] zkd_11 (zgR_s eb_4).1 (C_Mo_findPlaced n E S a0 q_8 q_9.1 q_9.2 eq_9) d_Mo_placed_41 tw_1760 tw_1757 tw_1759 ts_89 tw_13 dd_Mo_findPlaced ⟨Nat.le_of_ble_eq_true rfl, Nat.le_of_ble_eq_true rfl, Nat.le_of_ble_eq_true rfl, Nat.le_of_ble_eq_true rfl⟩ (Nat.le_of_ble_eq_true rfl) rfl rfl rfl rfl ?_
      refine zi_istore_n [(3, .int q_9.1), (0, .ref a0), (1, .int x1), (2, .int x2)] d_Mo_placed_44 (by decide) rfl ?_
      refine zi_iload_n 0 d_Mo_placed_45 rfl ?_
      refine zi_iconst (-1) d_Mo_placed_46 rfl ?_
      refine zi_icmp_eq (tgt := 54) d_Mo_placed_47 rfl (fun c_10 => ?_) (fun c_10 => ?_)
      · rw [if_pos c_10] at h
        refine zi_lo [(3, .int q_9.1)] [0] rfl ?_
        exact K_Mo_placed_b54 n E S q_9.1 q_9.2 r M'  h
      · rw [if_neg c_10] at h
        refine zi_iload_n 3 d_Mo_placed_50 rfl ?_
        refine zi_if_ne (tgt := 58) d_Mo_placed_51 rfl (fun c_11 => ?_) (fun c_11 => ?_)
        · rw [if_neg c_11] at h
          refine zi_aload_n 1 d_Mo_placed_58 rfl ?_
          obtain ⟨b_12, eb_12, h⟩ := zbind h
          refine zo_getR 62 zkd_11 44 d_Mo_placed_59 eb_12 rfl tw_1273 rfl ?_
          refine zi_iload_n 3 d_Mo_placed_62 rfl ?_
          refine zi_iconst 1 d_Mo_placed_63 rfl ?_
          refine zi_isub d_Mo_placed_64 ?_
          obtain ⟨v_13, ev_13, h⟩ := zbind h
          refine zo_iald 66 d_Mo_placed_65 ev_13 rfl ?_
          cases h
          exact zo_ret d_Mo_placed_66 (Nat.le_of_ble_eq_true rfl) (Nat.le_of_ble_eq_true rfl) rfl
        · rw [if_pos c_11] at h
          refine zi_lo [(3, .int q_9.1)] [0] rfl ?_
          exact K_Mo_placed_b54 n E S q_9.1 q_9.2 r M'  h
    · rw [if_neg c_7] at h
      refine zi_iconst (-1) d_Mo_placed_33 rfl ?_
      cases h
      exact zo_ret d_Mo_placed_34 (Nat.le_of_ble_eq_true rfl) (Nat.le_of_ble_eq_true rfl) rfl
theorem C_Mo_placed (n : Nat) (E : zE) (S : zS) (a0 : Nat) (x1 : Int32) (x2 : Int32) (M : zH) (r : Int32) (M' : zH) (h : F_Mo_placed n E S a0 x1 x2 M = some (r, M')) : zC E Y_Mo_placed [.ref a0, .int x1, .int x2] S M (some (.int r), S, M') :=
  zC.of (Or.inl (show plainName "NightColanderModel" = true by decide)) (Nat.le_of_ble_eq_true rfl) (trivial) (K_Mo_placed n E S a0 x1 x2 M r M' h)
theorem d_Mo_seen_0 : decode (yB Y_Mo_seen) 0 = .ok (.aload_n 0, 1) := by decide +kernel
theorem d_Mo_seen_1 : decode (yB Y_Mo_seen) 1 = .ok (.iconst 0, 1) := by decide +kernel
theorem d_Mo_seen_2 : decode (yB Y_Mo_seen) 2 = .ok (.putfield 156, 3) := by decide +kernel
theorem d_Mo_seen_5 : decode (yB Y_Mo_seen) 5 = .ok (.iload_n 1, 1) := by decide +kernel
theorem d_Mo_seen_6 : decode (yB Y_Mo_seen) 6 = .ok (.invokestatic 194, 3) := by decide +kernel
theorem d_Mo_seen_9 : decode (yB Y_Mo_seen) 9 = .ok (.ifCond .eq 15, 3) := by decide +kernel
theorem d_Mo_seen_12 : decode (yB Y_Mo_seen) 12 = .ok (.iload_n 2, 1) := by decide +kernel
theorem d_Mo_seen_13 : decode (yB Y_Mo_seen) 13 = .ok (.i2l, 1) := by decide +kernel
theorem d_Mo_seen_14 : decode (yB Y_Mo_seen) 14 = .ok (.lconst 0, 1) := by decide +kernel
theorem d_Mo_seen_15 : decode (yB Y_Mo_seen) 15 = .ok (.ldc2_w 230, 3) := by decide +kernel
theorem d_Mo_seen_18 : decode (yB Y_Mo_seen) 18 = .ok (.invokestatic 176, 3) := by decide +kernel
theorem d_Mo_seen_21 : decode (yB Y_Mo_seen) 21 = .ok (.ifCond .ne 9, 3) := by decide +kernel
theorem d_Mo_seen_24 : decode (yB Y_Mo_seen) 24 = .ok (.aload_n 0, 1) := by decide +kernel
theorem d_Mo_seen_25 : decode (yB Y_Mo_seen) 25 = .ok (.iconst (-1), 1) := by decide +kernel
theorem d_Mo_seen_26 : decode (yB Y_Mo_seen) 26 = .ok (.invokevirtual 165, 3) := by decide +kernel
theorem d_Mo_seen_29 : decode (yB Y_Mo_seen) 29 = .ok (.ireturn, 1) := by decide +kernel
theorem d_Mo_seen_30 : decode (yB Y_Mo_seen) 30 = .ok (.aload_n 0, 1) := by decide +kernel
theorem d_Mo_seen_31 : decode (yB Y_Mo_seen) 31 = .ok (.getfield 13, 3) := by decide +kernel
theorem d_Mo_seen_34 : decode (yB Y_Mo_seen) 34 = .ok (.iconst 1, 1) := by decide +kernel
theorem d_Mo_seen_35 : decode (yB Y_Mo_seen) 35 = .ok (.iaload, 1) := by decide +kernel
theorem d_Mo_seen_36 : decode (yB Y_Mo_seen) 36 = .ok (.istore_n 3, 1) := by decide +kernel
theorem d_Mo_seen_37 : decode (yB Y_Mo_seen) 37 = .ok (.iload_n 3, 1) := by decide +kernel
theorem d_Mo_seen_38 : decode (yB Y_Mo_seen) 38 = .ok (.bipush 6, 2) := by decide +kernel
theorem d_Mo_seen_40 : decode (yB Y_Mo_seen) 40 = .ok (.if_icmp .ne 10, 3) := by decide +kernel
theorem d_Mo_seen_43 : decode (yB Y_Mo_seen) 43 = .ok (.aload_n 0, 1) := by decide +kernel
theorem d_Mo_seen_44 : decode (yB Y_Mo_seen) 44 = .ok (.bipush (-5), 2) := by decide +kernel
theorem d_Mo_seen_46 : decode (yB Y_Mo_seen) 46 = .ok (.invokevirtual 165, 3) := by decide +kernel
theorem d_Mo_seen_49 : decode (yB Y_Mo_seen) 49 = .ok (.ireturn, 1) := by decide +kernel
theorem d_Mo_seen_50 : decode (yB Y_Mo_seen) 50 = .ok (.aload_n 0, 1) := by decide +kernel
theorem d_Mo_seen_51 : decode (yB Y_Mo_seen) 51 = .ok (.getfield 13, 3) := by decide +kernel
theorem d_Mo_seen_54 : decode (yB Y_Mo_seen) 54 = .ok (.bipush 65, 2) := by decide +kernel
theorem d_Mo_seen_56 : decode (yB Y_Mo_seen) 56 = .ok (.iconst 2, 1) := by decide +kernel
theorem d_Mo_seen_57 : decode (yB Y_Mo_seen) 57 = .ok (.iload_n 3, 1) := by decide +kernel
theorem d_Mo_seen_58 : decode (yB Y_Mo_seen) 58 = .ok (.imul, 1) := by decide +kernel
theorem d_Mo_seen_59 : decode (yB Y_Mo_seen) 59 = .ok (.iadd, 1) := by decide +kernel
theorem d_Mo_seen_60 : decode (yB Y_Mo_seen) 60 = .ok (.iload_n 1, 1) := by decide +kernel
theorem d_Mo_seen_61 : decode (yB Y_Mo_seen) 61 = .ok (.iastore, 1) := by decide +kernel
theorem d_Mo_seen_62 : decode (yB Y_Mo_seen) 62 = .ok (.aload_n 0, 1) := by decide +kernel
theorem d_Mo_seen_63 : decode (yB Y_Mo_seen) 63 = .ok (.getfield 13, 3) := by decide +kernel
theorem d_Mo_seen_66 : decode (yB Y_Mo_seen) 66 = .ok (.bipush 65, 2) := by decide +kernel
theorem d_Mo_seen_68 : decode (yB Y_Mo_seen) 68 = .ok (.iconst 2, 1) := by decide +kernel
theorem d_Mo_seen_69 : decode (yB Y_Mo_seen) 69 = .ok (.iload_n 3, 1) := by decide +kernel
theorem d_Mo_seen_70 : decode (yB Y_Mo_seen) 70 = .ok (.imul, 1) := by decide +kernel
theorem d_Mo_seen_71 : decode (yB Y_Mo_seen) 71 = .ok (.iadd, 1) := by decide +kernel
theorem d_Mo_seen_72 : decode (yB Y_Mo_seen) 72 = .ok (.iconst 1, 1) := by decide +kernel
theorem d_Mo_seen_73 : decode (yB Y_Mo_seen) 73 = .ok (.iadd, 1) := by decide +kernel
theorem d_Mo_seen_74 : decode (yB Y_Mo_seen) 74 = .ok (.iload_n 2, 1) := by decide +kernel
theorem d_Mo_seen_75 : decode (yB Y_Mo_seen) 75 = .ok (.iastore, 1) := by decide +kernel
theorem d_Mo_seen_76 : decode (yB Y_Mo_seen) 76 = .ok (.aload_n 0, 1) := by decide +kernel
theorem d_Mo_seen_77 : decode (yB Y_Mo_seen) 77 = .ok (.getfield 13, 3) := by decide +kernel
theorem d_Mo_seen_80 : decode (yB Y_Mo_seen) 80 = .ok (.iconst 1, 1) := by decide +kernel
theorem d_Mo_seen_81 : decode (yB Y_Mo_seen) 81 = .ok (.dup2, 1) := by decide +kernel
theorem d_Mo_seen_82 : decode (yB Y_Mo_seen) 82 = .ok (.iaload, 1) := by decide +kernel
theorem d_Mo_seen_83 : decode (yB Y_Mo_seen) 83 = .ok (.iconst 1, 1) := by decide +kernel
theorem d_Mo_seen_84 : decode (yB Y_Mo_seen) 84 = .ok (.iadd, 1) := by decide +kernel
theorem d_Mo_seen_85 : decode (yB Y_Mo_seen) 85 = .ok (.iastore, 1) := by decide +kernel
theorem d_Mo_seen_86 : decode (yB Y_Mo_seen) 86 = .ok (.aload_n 0, 1) := by decide +kernel
theorem d_Mo_seen_87 : decode (yB Y_Mo_seen) 87 = .ok (.iload_n 3, 1) := by decide +kernel
theorem d_Mo_seen_88 : decode (yB Y_Mo_seen) 88 = .ok (.iconst 1, 1) := by decide +kernel
theorem d_Mo_seen_89 : decode (yB Y_Mo_seen) 89 = .ok (.iadd, 1) := by decide +kernel
theorem d_Mo_seen_90 : decode (yB Y_Mo_seen) 90 = .ok (.invokevirtual 165, 3) := by decide +kernel
theorem d_Mo_seen_93 : decode (yB Y_Mo_seen) 93 = .ok (.ireturn, 1) := by decide +kernel
def F_Mo_seen_b24 (n : Nat) (E : zE) (S : zS) (a0 : Nat) (M : zH) : Option (Int32 × zH) :=
  (zck S a0 11).bind fun u_1 =>
  (F_Mo_tell n E S a0 (-1) M).bind fun q_2 =>
  some (q_2.1, q_2.2)
def F_Mo_seen (n : Nat) (E : zE) (S : zS) (a0 : Nat) (x1 : Int32) (x2 : Int32) (M : zH) : Option (Int32 × zH) :=
  (zpI S M a0 11 0 0).bind fun m_3 =>
  (F_Mo_isField n E S x1 m_3).bind fun q_4 =>
  if q_4.1 = true then
    (F_Mo_in n E S x2.toInt64 0 400 q_4.2).bind fun q_6 =>
    if q_6.1 = true then
      (zgR S a0 11 3).bind fun b_8 =>
      (zldI S q_6.2 b_8 1).bind fun v_9 =>
      if v_9 = 6 then
        (F_Mo_tell n E S a0 (-5) q_6.2).bind fun q_11 =>
        some (q_11.1, q_11.2)
      else
        (zstI S q_6.2 b_8 (65 + (2 * v_9)) x1).bind fun m_12 =>
        (zstI S m_12 b_8 ((65 + (2 * v_9)) + 1) x2).bind fun m_13 =>
        (zldI S m_13 b_8 1).bind fun v_14 =>
        (zstI S m_13 b_8 1 (v_14 + 1)).bind fun m_15 =>
        (F_Mo_tell n E S a0 (v_9 + 1) m_15).bind fun q_16 =>
        some (q_16.1, q_16.2)
    else
      F_Mo_seen_b24 n E S a0 q_6.2
  else
    F_Mo_seen_b24 n E S a0 q_4.2
theorem K_Mo_seen_b24 (n : Nat) (E : zE) (S : zS) (a0 : Nat) (M : zH) (r : Int32) (M' : zH)  (h : F_Mo_seen_b24 n E S a0 M = some (r, M')) : zG E Y_Mo_seen (some (.int r), S, M') 24 [(0, .ref a0)] [] S M 0 0 := by
  unfold F_Mo_seen_b24 at h
  refine zi_aload_n 0 d_Mo_seen_24 rfl ?_
  refine zi_iconst (-1) d_Mo_seen_25 rfl ?_
  obtain ⟨u_1, eu_1, h⟩ := zbind h
  obtain ⟨q_2, eq_2, h⟩ := zbind h
  refine zo_virt (k' := 0) (n' := 0) 29 [.int (-1)] [] [.int q_2.1] zkd_11 (zck_s eu_1) (C_Mo_tell n E S a0 (-1) M q_2.1 q_2.2 eq_2) d_Mo_seen_26 tw_1408 tw_1405 tw_1407 ts_36 tw_13 dd_Mo_tell ⟨Nat.le_of_ble_eq_true rfl, Nat.le_of_ble_eq_true rfl, Nat.le_of_ble_eq_true rfl, Nat.le_of_ble_eq_true rfl⟩ (Nat.le_of_ble_eq_true rfl) rfl rfl rfl rfl ?_
  cases h
  exact zo_ret d_Mo_seen_29 (Nat.le_of_ble_eq_true rfl) (Nat.le_of_ble_eq_true rfl) rfl
theorem K_Mo_seen (n : Nat) (E : zE) (S : zS) (a0 : Nat) (x1 : Int32) (x2 : Int32) (M : zH) (r : Int32) (M' : zH)  (h : F_Mo_seen n E S a0 x1 x2 M = some (r, M')) : zG E Y_Mo_seen (some (.int r), S, M') 0 [(0, .ref a0), (1, .int x1), (2, .int x2)] [] S M 0 0 := by
  unfold F_Mo_seen at h
  refine zi_aload_n 0 d_Mo_seen_0 rfl ?_
  refine zi_iconst 0 d_Mo_seen_1 rfl ?_
  obtain ⟨m_3, em_3, h⟩ := zbind h
  refine zo_putI 5 zkd_11 0 d_Mo_seen_2 em_3 rfl rfl rfl tw_1229 rfl ?_
  refine zi_iload_n 1 d_Mo_seen_5 rfl ?_
  obtain ⟨q_4, eq_4, h⟩ := zbind h
  refine zo_stat (k' := 0) (n' := 0) 9 [.int x1] [] [.int (bI q_4.1)] (C_Mo_isField n E S x1 m_3 q_4.1 q_4.2 eq_4) d_Mo_seen_6 tw_1438 tw_1436 tw_1437 tw_13 dd_Mo_isField ⟨Nat.le_of_ble_eq_true rfl, Nat.le_of_ble_eq_true rfl, Nat.le_of_ble_eq_true rfl, Nat.le_of_ble_eq_true rfl⟩ (Nat.le_of_ble_eq_true rfl) rfl rfl rfl rfl ?_
  refine zo_ifeqB d_Mo_seen_9 rfl 12 rfl (fun c_5 => ?_) (fun c_5 => ?_)
  · rw [if_neg c_5] at h
    refine zi_lo [(0, .ref a0)] [0] rfl ?_
    exact K_Mo_seen_b24 n E S a0 q_4.2 r M'  h
  · rw [if_pos c_5] at h
    refine zi_iload_n 2 d_Mo_seen_12 rfl ?_
    refine zi_i2l d_Mo_seen_13 ?_
    refine zi_lconst 0 d_Mo_seen_14 rfl ?_
    refine zi_ldc2 d_Mo_seen_15 tw_1515 ?_
    obtain ⟨q_6, eq_6, h⟩ := zbind h
    refine zo_stat (k' := 0) (n' := 0) 21 [.long x2.toInt64, .long 0, .long 400] [] [.int (bI q_6.1)] (C_Mo_in n E S x2.toInt64 0 400 q_4.2 q_6.1 q_6.2 eq_6) d_Mo_seen_18 tw_1419 tw_1417 tw_1418 tw_13 dd_Mo_in ⟨Nat.le_of_ble_eq_true rfl, Nat.le_of_ble_eq_true rfl, Nat.le_of_ble_eq_true rfl, Nat.le_of_ble_eq_true rfl⟩ (Nat.le_of_ble_eq_true rfl) rfl rfl rfl rfl ?_
    refine zo_ifneB d_Mo_seen_21 rfl 24 rfl (fun c_7 => ?_) (fun c_7 => ?_)
    · rw [if_pos c_7] at h
      refine zi_aload_n 0 d_Mo_seen_30 rfl ?_
      obtain ⟨b_8, eb_8, h⟩ := zbind h
      refine zo_getR 34 zkd_11 3 d_Mo_seen_31 eb_8 rfl tw_1232 rfl ?_
      refine zi_iconst 1 d_Mo_seen_34 rfl ?_
      obtain ⟨v_9, ev_9, h⟩ := zbind h
      refine zo_iald 36 d_Mo_seen_35 ev_9 rfl ?_
      refine zi_istore_n [(3, .int v_9), (0, .ref a0), (1, .int x1), (2, .int x2)] d_Mo_seen_36 (by decide) rfl ?_
      refine zi_iload_n 0 d_Mo_seen_37 rfl ?_
      refine zi_bipush 6 d_Mo_seen_38 rfl ?_
      refine zi_icmp_ne (tgt := 50) d_Mo_seen_40 rfl (fun c_10 => ?_) (fun c_10 => ?_)
      · rw [if_neg c_10] at h
        refine zi_aload_n 1 d_Mo_seen_50 rfl ?_
        refine zo_getR 54 zkd_11 3 d_Mo_seen_51 eb_8 rfl tw_1232 rfl ?_
        refine zi_bipush 65 d_Mo_seen_54 rfl ?_
        refine zi_iconst 2 d_Mo_seen_56 rfl ?_
        refine zi_iload_n 0 d_Mo_seen_57 rfl ?_
        refine zi_imul d_Mo_seen_58 ?_
        refine zi_iadd d_Mo_seen_59 ?_
        refine zi_iload_n 2 d_Mo_seen_60 rfl ?_
        obtain ⟨m_12, em_12, h⟩ := zbind h
        refine zo_iast 62 d_Mo_seen_61 em_12 rfl ?_
        refine zi_aload_n 1 d_Mo_seen_62 rfl ?_
        refine zo_getR 66 zkd_11 3 d_Mo_seen_63 eb_8 rfl tw_1232 rfl ?_
        refine zi_bipush 65 d_Mo_seen_66 rfl ?_
        refine zi_iconst 2 d_Mo_seen_68 rfl ?_
        refine zi_iload_n 0 d_Mo_seen_69 rfl ?_
        refine zi_imul d_Mo_seen_70 ?_
        refine zi_iadd d_Mo_seen_71 ?_
        refine zi_iconst 1 d_Mo_seen_72 rfl ?_
        refine zi_iadd d_Mo_seen_73 ?_
        refine zi_iload_n 3 d_Mo_seen_74 rfl ?_
        obtain ⟨m_13, em_13, h⟩ := zbind h
        refine zo_iast 76 d_Mo_seen_75 em_13 rfl ?_
        refine zi_aload_n 1 d_Mo_seen_76 rfl ?_
        refine zo_getR 80 zkd_11 3 d_Mo_seen_77 eb_8 rfl tw_1232 rfl ?_
        refine zi_iconst 1 d_Mo_seen_80 rfl ?_
        refine zi_dup2 d_Mo_seen_81 rfl rfl ?_
        obtain ⟨v_14, ev_14, h⟩ := zbind h
        refine zo_iald 83 d_Mo_seen_82 ev_14 rfl ?_
        refine zi_iconst 1 d_Mo_seen_83 rfl ?_
        refine zi_iadd d_Mo_seen_84 ?_
        obtain ⟨m_15, em_15, h⟩ := zbind h
        refine zo_iast 86 d_Mo_seen_85 em_15 rfl ?_
        refine zi_aload_n 1 d_Mo_seen_86 rfl ?_
        refine zi_iload_n 0 d_Mo_seen_87 rfl ?_
        refine zi_iconst 1 d_Mo_seen_88 rfl ?_
        refine zi_iadd d_Mo_seen_89 ?_
        obtain ⟨q_16, eq_16, h⟩ := zbind h
        refine zo_virt (k' := 0) (n' := 0) 93 [.int (v_9 + 1)] [] [.int q_16.1] zkd_11 (zgR_s eb_8).1 (C_Mo_tell n E S a0 (v_9 + 1) m_15 q_16.1 q_16.2 eq_16) d_Mo_seen_90 tw_1408 tw_1405 tw_1407 ts_36 tw_13 dd_Mo_tell ⟨Nat.le_of_ble_eq_true rfl, Nat.le_of_ble_eq_true rfl, Nat.le_of_ble_eq_true rfl, Nat.le_of_ble_eq_true rfl⟩ (Nat.le_of_ble_eq_true rfl) rfl rfl rfl rfl ?_
        cases h
        exact zo_ret d_Mo_seen_93 (Nat.le_of_ble_eq_true rfl) (Nat.le_of_ble_eq_true rfl) rfl
      · rw [if_pos c_10] at h
        refine zi_aload_n 1 d_Mo_seen_43 rfl ?_
        refine zi_bipush (-5) d_Mo_seen_44 rfl ?_
        obtain ⟨q_11, eq_11, h⟩ := zbind h
        refine zo_virt (k' := 0) (n' := 0) 49 [.int (-5)] [] [.int q_11.1] zkd_11 (zgR_s eb_8).1 (C_Mo_tell n E S a0 (-5) q_6.2 q_11.1 q_11.2 eq_11) d_Mo_seen_46 tw_1408 tw_1405 tw_1407 ts_36 tw_13 dd_Mo_tell ⟨Nat.le_of_ble_eq_true rfl, Nat.le_of_ble_eq_true rfl, Nat.le_of_ble_eq_true rfl, Nat.le_of_ble_eq_true rfl⟩ (Nat.le_of_ble_eq_true rfl) rfl rfl rfl rfl ?_
        cases h
        exact zo_ret d_Mo_seen_49 (Nat.le_of_ble_eq_true rfl) (Nat.le_of_ble_eq_true rfl) rfl
    · rw [if_neg c_7] at h
      refine zi_lo [(0, .ref a0)] [0] rfl ?_
      exact K_Mo_seen_b24 n E S a0 q_6.2 r M'  h
theorem C_Mo_seen (n : Nat) (E : zE) (S : zS) (a0 : Nat) (x1 : Int32) (x2 : Int32) (M : zH) (r : Int32) (M' : zH) (h : F_Mo_seen n E S a0 x1 x2 M = some (r, M')) : zC E Y_Mo_seen [.ref a0, .int x1, .int x2] S M (some (.int r), S, M') :=
  zC.of (Or.inl (show plainName "NightColanderModel" = true by decide)) (Nat.le_of_ble_eq_true rfl) (trivial) (K_Mo_seen n E S a0 x1 x2 M r M' h)
theorem d_Mo_forget_0 : decode (yB Y_Mo_forget) 0 = .ok (.aload_n 0, 1) := by decide +kernel
theorem d_Mo_forget_1 : decode (yB Y_Mo_forget) 1 = .ok (.iconst 0, 1) := by decide +kernel
theorem d_Mo_forget_2 : decode (yB Y_Mo_forget) 2 = .ok (.putfield 156, 3) := by decide +kernel
theorem d_Mo_forget_5 : decode (yB Y_Mo_forget) 5 = .ok (.aload_n 0, 1) := by decide +kernel
theorem d_Mo_forget_6 : decode (yB Y_Mo_forget) 6 = .ok (.getfield 13, 3) := by decide +kernel
theorem d_Mo_forget_9 : decode (yB Y_Mo_forget) 9 = .ok (.iconst 1, 1) := by decide +kernel
theorem d_Mo_forget_10 : decode (yB Y_Mo_forget) 10 = .ok (.iaload, 1) := by decide +kernel
theorem d_Mo_forget_11 : decode (yB Y_Mo_forget) 11 = .ok (.istore_n 1, 1) := by decide +kernel
theorem d_Mo_forget_12 : decode (yB Y_Mo_forget) 12 = .ok (.aload_n 0, 1) := by decide +kernel
theorem d_Mo_forget_13 : decode (yB Y_Mo_forget) 13 = .ok (.getfield 13, 3) := by decide +kernel
theorem d_Mo_forget_16 : decode (yB Y_Mo_forget) 16 = .ok (.iconst 1, 1) := by decide +kernel
theorem d_Mo_forget_17 : decode (yB Y_Mo_forget) 17 = .ok (.iconst 0, 1) := by decide +kernel
theorem d_Mo_forget_18 : decode (yB Y_Mo_forget) 18 = .ok (.iastore, 1) := by decide +kernel
theorem d_Mo_forget_19 : decode (yB Y_Mo_forget) 19 = .ok (.iload_n 1, 1) := by decide +kernel
theorem d_Mo_forget_20 : decode (yB Y_Mo_forget) 20 = .ok (.ireturn, 1) := by decide +kernel
def F_Mo_forget (n : Nat) (E : zE) (S : zS) (a0 : Nat) (M : zH) : Option (Int32 × zH) :=
  (zpI S M a0 11 0 0).bind fun m_1 =>
  (zgR S a0 11 3).bind fun b_2 =>
  (zldI S m_1 b_2 1).bind fun v_3 =>
  (zstI S m_1 b_2 1 0).bind fun m_4 =>
  some (v_3, m_4)
theorem K_Mo_forget (n : Nat) (E : zE) (S : zS) (a0 : Nat) (M : zH) (r : Int32) (M' : zH)  (h : F_Mo_forget n E S a0 M = some (r, M')) : zG E Y_Mo_forget (some (.int r), S, M') 0 [(0, .ref a0)] [] S M 0 0 := by
  unfold F_Mo_forget at h
  refine zi_aload_n 0 d_Mo_forget_0 rfl ?_
  refine zi_iconst 0 d_Mo_forget_1 rfl ?_
  obtain ⟨m_1, em_1, h⟩ := zbind h
  refine zo_putI 5 zkd_11 0 d_Mo_forget_2 em_1 rfl rfl rfl tw_1229 rfl ?_
  refine zi_aload_n 0 d_Mo_forget_5 rfl ?_
  obtain ⟨b_2, eb_2, h⟩ := zbind h
  refine zo_getR 9 zkd_11 3 d_Mo_forget_6 eb_2 rfl tw_1232 rfl ?_
  refine zi_iconst 1 d_Mo_forget_9 rfl ?_
  obtain ⟨v_3, ev_3, h⟩ := zbind h
  refine zo_iald 11 d_Mo_forget_10 ev_3 rfl ?_
  refine zi_istore_n [(1, .int v_3), (0, .ref a0)] d_Mo_forget_11 (by decide) rfl ?_
  refine zi_aload_n 1 d_Mo_forget_12 rfl ?_
  refine zo_getR 16 zkd_11 3 d_Mo_forget_13 eb_2 rfl tw_1232 rfl ?_
  refine zi_iconst 1 d_Mo_forget_16 rfl ?_
  refine zi_iconst 0 d_Mo_forget_17 rfl ?_
  obtain ⟨m_4, em_4, h⟩ := zbind h
  refine zo_iast 19 d_Mo_forget_18 em_4 rfl ?_
  refine zi_iload_n 0 d_Mo_forget_19 rfl ?_
  cases h
  exact zo_ret d_Mo_forget_20 (Nat.le_of_ble_eq_true rfl) (Nat.le_of_ble_eq_true rfl) rfl
theorem C_Mo_forget (n : Nat) (E : zE) (S : zS) (a0 : Nat) (M : zH) (r : Int32) (M' : zH) (h : F_Mo_forget n E S a0 M = some (r, M')) : zC E Y_Mo_forget [.ref a0] S M (some (.int r), S, M') :=
  zC.of (Or.inl (show plainName "NightColanderModel" = true by decide)) (Nat.le_of_ble_eq_true rfl) (trivial) (K_Mo_forget n E S a0 M r M' h)
theorem d_Mo_turnOf_0 : decode (yB Y_Mo_turnOf) 0 = .ok (.iload_n 0, 1) := by decide +kernel
theorem d_Mo_turnOf_1 : decode (yB Y_Mo_turnOf) 1 = .ok (.bipush 9, 2) := by decide +kernel
theorem d_Mo_turnOf_3 : decode (yB Y_Mo_turnOf) 3 = .ok (.iconst 3, 1) := by decide +kernel
theorem d_Mo_turnOf_4 : decode (yB Y_Mo_turnOf) 4 = .ok (.iload_n 1, 1) := by decide +kernel
theorem d_Mo_turnOf_5 : decode (yB Y_Mo_turnOf) 5 = .ok (.imul, 1) := by decide +kernel
theorem d_Mo_turnOf_6 : decode (yB Y_Mo_turnOf) 6 = .ok (.isub, 1) := by decide +kernel
theorem d_Mo_turnOf_7 : decode (yB Y_Mo_turnOf) 7 = .ok (.ishr, 1) := by decide +kernel
theorem d_Mo_turnOf_8 : decode (yB Y_Mo_turnOf) 8 = .ok (.bipush 7, 2) := by decide +kernel
theorem d_Mo_turnOf_10 : decode (yB Y_Mo_turnOf) 10 = .ok (.iand, 1) := by decide +kernel
theorem d_Mo_turnOf_11 : decode (yB Y_Mo_turnOf) 11 = .ok (.ireturn, 1) := by decide +kernel
def F_Mo_turnOf (n : Nat) (E : zE) (S : zS) (x0 : Int32) (x1 : Int32) (M : zH) : Option (Int32 × zH) :=
  some ((x0 >>> ((9 - (3 * x1)) &&& (31 : Int32))) &&& (7 : Int32), M)
theorem K_Mo_turnOf (n : Nat) (E : zE) (S : zS) (x0 : Int32) (x1 : Int32) (M : zH) (r : Int32) (M' : zH)  (h : F_Mo_turnOf n E S x0 x1 M = some (r, M')) : zG E Y_Mo_turnOf (some (.int r), S, M') 0 [(0, .int x0), (1, .int x1)] [] S M 0 0 := by
  unfold F_Mo_turnOf at h
  refine zi_iload_n 0 d_Mo_turnOf_0 rfl ?_
  refine zi_bipush 9 d_Mo_turnOf_1 rfl ?_
  refine zi_iconst 3 d_Mo_turnOf_3 rfl ?_
  refine zi_iload_n 1 d_Mo_turnOf_4 rfl ?_
  refine zi_imul d_Mo_turnOf_5 ?_
  refine zi_isub d_Mo_turnOf_6 ?_
  refine zi_ishr d_Mo_turnOf_7 ?_
  refine zi_bipush 7 d_Mo_turnOf_8 rfl ?_
  refine zi_iand d_Mo_turnOf_10 ?_
  cases h
  exact zo_ret d_Mo_turnOf_11 (Nat.le_of_ble_eq_true rfl) (Nat.le_of_ble_eq_true rfl) rfl
theorem C_Mo_turnOf (n : Nat) (E : zE) (S : zS) (x0 : Int32) (x1 : Int32) (M : zH) (r : Int32) (M' : zH) (h : F_Mo_turnOf n E S x0 x1 M = some (r, M')) : zC E Y_Mo_turnOf [.int x0, .int x1] S M (some (.int r), S, M') :=
  zC.of (Or.inl (show plainName "NightColanderModel" = true by decide)) (Nat.le_of_ble_eq_true rfl) (trivial) (K_Mo_turnOf n E S x0 x1 M r M' h)
theorem d_Mo_fallsOn_0 : decode (yB Y_Mo_fallsOn) 0 = .ok (.iconst 0, 1) := by decide +kernel
theorem d_Mo_fallsOn_1 : decode (yB Y_Mo_fallsOn) 1 = .ok (.istore_n 3, 1) := by decide +kernel
theorem d_Mo_fallsOn_2 : decode (yB Y_Mo_fallsOn) 2 = .ok (.iconst 0, 1) := by decide +kernel
theorem d_Mo_fallsOn_3 : decode (yB Y_Mo_fallsOn) 3 = .ok (.istore 4, 2) := by decide +kernel
theorem d_Mo_fallsOn_5 : decode (yB Y_Mo_fallsOn) 5 = .ok (.iload 4, 2) := by decide +kernel
theorem d_Mo_fallsOn_7 : decode (yB Y_Mo_fallsOn) 7 = .ok (.iconst 4, 1) := by decide +kernel
theorem d_Mo_fallsOn_8 : decode (yB Y_Mo_fallsOn) 8 = .ok (.if_icmp .ge 34, 3) := by decide +kernel
theorem d_Mo_fallsOn_11 : decode (yB Y_Mo_fallsOn) 11 = .ok (.iload_n 3, 1) := by decide +kernel
theorem d_Mo_fallsOn_12 : decode (yB Y_Mo_fallsOn) 12 = .ok (.aload_n 0, 1) := by decide +kernel
theorem d_Mo_fallsOn_13 : decode (yB Y_Mo_fallsOn) 13 = .ok (.getfield 124, 3) := by decide +kernel
theorem d_Mo_fallsOn_16 : decode (yB Y_Mo_fallsOn) 16 = .ok (.bipush 64, 2) := by decide +kernel
theorem d_Mo_fallsOn_18 : decode (yB Y_Mo_fallsOn) 18 = .ok (.iload 4, 2) := by decide +kernel
theorem d_Mo_fallsOn_20 : decode (yB Y_Mo_fallsOn) 20 = .ok (.imul, 1) := by decide +kernel
theorem d_Mo_fallsOn_21 : decode (yB Y_Mo_fallsOn) 21 = .ok (.bipush 8, 2) := by decide +kernel
theorem d_Mo_fallsOn_23 : decode (yB Y_Mo_fallsOn) 23 = .ok (.iload_n 1, 1) := by decide +kernel
theorem d_Mo_fallsOn_24 : decode (yB Y_Mo_fallsOn) 24 = .ok (.iload 4, 2) := by decide +kernel
theorem d_Mo_fallsOn_26 : decode (yB Y_Mo_fallsOn) 26 = .ok (.invokestatic 481, 3) := by decide +kernel
theorem d_Mo_fallsOn_29 : decode (yB Y_Mo_fallsOn) 29 = .ok (.imul, 1) := by decide +kernel
theorem d_Mo_fallsOn_30 : decode (yB Y_Mo_fallsOn) 30 = .ok (.iadd, 1) := by decide +kernel
theorem d_Mo_fallsOn_31 : decode (yB Y_Mo_fallsOn) 31 = .ok (.iload_n 2, 1) := by decide +kernel
theorem d_Mo_fallsOn_32 : decode (yB Y_Mo_fallsOn) 32 = .ok (.iadd, 1) := by decide +kernel
theorem d_Mo_fallsOn_33 : decode (yB Y_Mo_fallsOn) 33 = .ok (.iaload, 1) := by decide +kernel
theorem d_Mo_fallsOn_34 : decode (yB Y_Mo_fallsOn) 34 = .ok (.iadd, 1) := by decide +kernel
theorem d_Mo_fallsOn_35 : decode (yB Y_Mo_fallsOn) 35 = .ok (.istore_n 3, 1) := by decide +kernel
theorem d_Mo_fallsOn_36 : decode (yB Y_Mo_fallsOn) 36 = .ok (.iinc 4 1, 3) := by decide +kernel
theorem d_Mo_fallsOn_39 : decode (yB Y_Mo_fallsOn) 39 = .ok (.goto (-34), 3) := by decide +kernel
theorem d_Mo_fallsOn_42 : decode (yB Y_Mo_fallsOn) 42 = .ok (.iload_n 3, 1) := by decide +kernel
theorem d_Mo_fallsOn_43 : decode (yB Y_Mo_fallsOn) 43 = .ok (.ireturn, 1) := by decide +kernel
def F_Mo_fallsOn_L5 (n : Nat) (E : zE) (S : zS) (r5 : Nat × Int32 × Int32 × Int32 × Int32 × zH → Option (Int32 × zH)) (a0 : Nat) (x1 : Int32) (x2 : Int32) (x3 : Int32) (x4 : Int32) (M : zH) : Option (Int32 × zH) :=
  if 4 ≤ x4 then
    some (x3, M)
  else
    (zgR S a0 11 45).bind fun b_2 =>
    (F_Mo_turnOf n E S x1 x4 M).bind fun q_3 =>
    (zldI S q_3.2 b_2 (((64 * x4) + (8 * q_3.1)) + x2)).bind fun v_4 =>
    r5 (a0, x1, x2, x3 + v_4, x4 + 1, q_3.2)
def F_Mo_fallsOn_b5 (n : Nat) (E : zE) (S : zS) : Nat × Int32 × Int32 × Int32 × Int32 × zH → Option (Int32 × zH) := zfix (fun r5 s => F_Mo_fallsOn_L5 n E S r5 s.1 s.2.1 s.2.2.1 s.2.2.2.1 s.2.2.2.2.1 s.2.2.2.2.2) n
def F_Mo_fallsOn (n : Nat) (E : zE) (S : zS) (a0 : Nat) (x1 : Int32) (x2 : Int32) (M : zH) : Option (Int32 × zH) :=
  F_Mo_fallsOn_b5 n E S (a0, x1, x2, 0, 0, M)
theorem K_Mo_fallsOn_L5 (n : Nat) (E : zE) (S : zS) (r5 : Nat × Int32 × Int32 × Int32 × Int32 × zH → Option (Int32 × zH)) (a0 : Nat) (x1 : Int32) (x2 : Int32) (x3 : Int32) (x4 : Int32) (M : zH) (r : Int32) (M' : zH) (hr5 : ∀ (a0 : Nat) (x1 : Int32) (x2 : Int32) (x3 : Int32) (x4 : Int32) (M : zH), r5 (a0, x1, x2, x3, x4, M) = some (r, M') → zG E Y_Mo_fallsOn (some (.int r), S, M') 5 [(0, .ref a0), (1, .int x1), (2, .int x2), (3, .int x3), (4, .int x4)] [] S M 0 0) (h : F_Mo_fallsOn_L5 n E S r5 a0 x1 x2 x3 x4 M = some (r, M')) : zG E Y_Mo_fallsOn (some (.int r), S, M') 5 [(0, .ref a0), (1, .int x1), (2, .int x2), (3, .int x3), (4, .int x4)] [] S M 0 0 := by
  unfold F_Mo_fallsOn_L5 at h
  refine zi_iload 4 d_Mo_fallsOn_5 rfl ?_
  refine zi_iconst 4 d_Mo_fallsOn_7 rfl ?_
  refine zi_icmp_ge (tgt := 42) d_Mo_fallsOn_8 rfl (fun c_1 => ?_) (fun c_1 => ?_)
  · rw [if_pos c_1] at h
    refine zi_iload_n 3 d_Mo_fallsOn_42 rfl ?_
    cases h
    exact zo_ret d_Mo_fallsOn_43 (Nat.le_of_ble_eq_true rfl) (Nat.le_of_ble_eq_true rfl) rfl
  · rw [if_neg c_1] at h
    refine zi_iload_n 3 d_Mo_fallsOn_11 rfl ?_
    refine zi_aload_n 0 d_Mo_fallsOn_12 rfl ?_
    obtain ⟨b_2, eb_2, h⟩ := zbind h
    refine zo_getR 16 zkd_11 45 d_Mo_fallsOn_13 eb_2 rfl tw_1274 rfl ?_
    refine zi_bipush 64 d_Mo_fallsOn_16 rfl ?_
    refine zi_iload 4 d_Mo_fallsOn_18 rfl ?_
    refine zi_imul d_Mo_fallsOn_20 ?_
    refine zi_bipush 8 d_Mo_fallsOn_21 rfl ?_
    refine zi_iload_n 1 d_Mo_fallsOn_23 rfl ?_
    refine zi_iload 4 d_Mo_fallsOn_24 rfl ?_
    obtain ⟨q_3, eq_3, h⟩ := zbind h
    refine zo_stat (k' := 0) (n' := 0) 29 [.int x1, .int x4] [.int 8, .int (64 * x4), .ref b_2, .int x3] [.int q_3.1, .int 8, .int (64 * x4), .ref b_2, .int x3] (C_Mo_turnOf n E S x1 x4 M q_3.1 q_3.2 eq_3) d_Mo_fallsOn_26 tw_1791 tw_1789 tw_1790 tw_13 dd_Mo_turnOf ⟨Nat.le_of_ble_eq_true rfl, Nat.le_of_ble_eq_true rfl, Nat.le_of_ble_eq_true rfl, Nat.le_of_ble_eq_true rfl⟩ (Nat.le_of_ble_eq_true rfl) rfl rfl rfl rfl ?_
    refine zi_imul d_Mo_fallsOn_29 ?_
    refine zi_iadd d_Mo_fallsOn_30 ?_
    refine zi_iload_n 2 d_Mo_fallsOn_31 rfl ?_
    refine zi_iadd d_Mo_fallsOn_32 ?_
    obtain ⟨v_4, ev_4, h⟩ := zbind h
    refine zo_iald 34 d_Mo_fallsOn_33 ev_4 rfl ?_
    refine zi_iadd d_Mo_fallsOn_34 ?_
    refine zi_istore_n [(3, .int (x3 + v_4)), (0, .ref a0), (1, .int x1), (2, .int x2), (4, .int x4)] d_Mo_fallsOn_35 (by decide) rfl ?_
    refine zi_iinc 4 (x4 + 1) [(4, .int (x4 + 1)), (3, .int (x3 + v_4)), (0, .ref a0), (1, .int x1), (2, .int x2)] d_Mo_fallsOn_36 rfl rfl (by decide) rfl ?_
    refine zi_goto (tgt := 5) d_Mo_fallsOn_39 rfl ?_
    refine zi_lo [(0, .ref a0), (1, .int x1), (2, .int x2), (3, .int (x3 + v_4)), (4, .int (x4 + 1))] [2, 3, 4, 1, 0] rfl ?_
    exact hr5 a0 x1 x2 (x3 + v_4) (x4 + 1) q_3.2 h
theorem K_Mo_fallsOn_b5 (n : Nat) (E : zE) (S : zS) (a0 : Nat) (x1 : Int32) (x2 : Int32) (x3 : Int32) (x4 : Int32) (M : zH) (r : Int32) (M' : zH)  (h : F_Mo_fallsOn_b5 n E S (a0, x1, x2, x3, x4, M) = some (r, M')) : zG E Y_Mo_fallsOn (some (.int r), S, M') 5 [(0, .ref a0), (1, .int x1), (2, .int x2), (3, .int x3), (4, .int x4)] [] S M 0 0 := by
  have key : ∀ (k : Nat) (a0 : Nat) (x1 : Int32) (x2 : Int32) (x3 : Int32) (x4 : Int32) (M : zH), zfix (fun r5 s => F_Mo_fallsOn_L5 n E S r5 s.1 s.2.1 s.2.2.1 s.2.2.2.1 s.2.2.2.2.1 s.2.2.2.2.2) k (a0, x1, x2, x3, x4, M) = some (r, M') → zG E Y_Mo_fallsOn (some (.int r), S, M') 5 [(0, .ref a0), (1, .int x1), (2, .int x2), (3, .int x3), (4, .int x4)] [] S M 0 0 := by
    intro k
    induction k with
    | zero => intro a0 x1 x2 x3 x4 M h; cases h
    | succ k ih => intro a0 x1 x2 x3 x4 M h; exact K_Mo_fallsOn_L5 n E S _ a0 x1 x2 x3 x4 M r M'  (fun a0 x1 x2 x3 x4 M h => ih a0 x1 x2 x3 x4 M h) h
  exact key n a0 x1 x2 x3 x4 M h
theorem K_Mo_fallsOn (n : Nat) (E : zE) (S : zS) (a0 : Nat) (x1 : Int32) (x2 : Int32) (M : zH) (r : Int32) (M' : zH)  (h : F_Mo_fallsOn n E S a0 x1 x2 M = some (r, M')) : zG E Y_Mo_fallsOn (some (.int r), S, M') 0 [(0, .ref a0), (1, .int x1), (2, .int x2)] [] S M 0 0 := by
  unfold F_Mo_fallsOn at h
  refine zi_iconst 0 d_Mo_fallsOn_0 rfl ?_
  refine zi_istore_n [(3, .int 0), (0, .ref a0), (1, .int x1), (2, .int x2)] d_Mo_fallsOn_1 (by decide) rfl ?_
  refine zi_iconst 0 d_Mo_fallsOn_2 rfl ?_
  refine zi_istore [(4, .int 0), (3, .int 0), (0, .ref a0), (1, .int x1), (2, .int x2)] d_Mo_fallsOn_3 (by decide) rfl ?_
  refine zi_lo [(0, .ref a0), (1, .int x1), (2, .int x2), (3, .int 0), (4, .int 0)] [2, 3, 4, 1, 0] rfl ?_
  exact K_Mo_fallsOn_b5 n E S a0 x1 x2 0 0 M r M'  h
theorem C_Mo_fallsOn (n : Nat) (E : zE) (S : zS) (a0 : Nat) (x1 : Int32) (x2 : Int32) (M : zH) (r : Int32) (M' : zH) (h : F_Mo_fallsOn n E S a0 x1 x2 M = some (r, M')) : zC E Y_Mo_fallsOn [.ref a0, .int x1, .int x2] S M (some (.int r), S, M') :=
  zC.of (Or.inl (show plainName "NightColanderModel" = true by decide)) (Nat.le_of_ble_eq_true rfl) (trivial) (K_Mo_fallsOn n E S a0 x1 x2 M r M' h)
theorem d_Mo_canBe_0 : decode (yB Y_Mo_canBe) 0 = .ok (.iconst 1, 1) := by decide +kernel
theorem d_Mo_canBe_1 : decode (yB Y_Mo_canBe) 1 = .ok (.istore_n 2, 1) := by decide +kernel
theorem d_Mo_canBe_2 : decode (yB Y_Mo_canBe) 2 = .ok (.iconst 0, 1) := by decide +kernel
theorem d_Mo_canBe_3 : decode (yB Y_Mo_canBe) 3 = .ok (.istore_n 3, 1) := by decide +kernel
theorem d_Mo_canBe_4 : decode (yB Y_Mo_canBe) 4 = .ok (.iload_n 3, 1) := by decide +kernel
theorem d_Mo_canBe_5 : decode (yB Y_Mo_canBe) 5 = .ok (.aload_n 0, 1) := by decide +kernel
theorem d_Mo_canBe_6 : decode (yB Y_Mo_canBe) 6 = .ok (.getfield 13, 3) := by decide +kernel
theorem d_Mo_canBe_9 : decode (yB Y_Mo_canBe) 9 = .ok (.iconst 1, 1) := by decide +kernel
theorem d_Mo_canBe_10 : decode (yB Y_Mo_canBe) 10 = .ok (.iaload, 1) := by decide +kernel
theorem d_Mo_canBe_11 : decode (yB Y_Mo_canBe) 11 = .ok (.if_icmp .ge 51, 3) := by decide +kernel
theorem d_Mo_canBe_14 : decode (yB Y_Mo_canBe) 14 = .ok (.iload_n 2, 1) := by decide +kernel
theorem d_Mo_canBe_15 : decode (yB Y_Mo_canBe) 15 = .ok (.ifCond .eq 47, 3) := by decide +kernel
theorem d_Mo_canBe_18 : decode (yB Y_Mo_canBe) 18 = .ok (.aload_n 0, 1) := by decide +kernel
theorem d_Mo_canBe_19 : decode (yB Y_Mo_canBe) 19 = .ok (.iload_n 1, 1) := by decide +kernel
theorem d_Mo_canBe_20 : decode (yB Y_Mo_canBe) 20 = .ok (.aload_n 0, 1) := by decide +kernel
theorem d_Mo_canBe_21 : decode (yB Y_Mo_canBe) 21 = .ok (.getfield 13, 3) := by decide +kernel
theorem d_Mo_canBe_24 : decode (yB Y_Mo_canBe) 24 = .ok (.bipush 65, 2) := by decide +kernel
theorem d_Mo_canBe_26 : decode (yB Y_Mo_canBe) 26 = .ok (.iconst 2, 1) := by decide +kernel
theorem d_Mo_canBe_27 : decode (yB Y_Mo_canBe) 27 = .ok (.iload_n 3, 1) := by decide +kernel
theorem d_Mo_canBe_28 : decode (yB Y_Mo_canBe) 28 = .ok (.imul, 1) := by decide +kernel
theorem d_Mo_canBe_29 : decode (yB Y_Mo_canBe) 29 = .ok (.iadd, 1) := by decide +kernel
theorem d_Mo_canBe_30 : decode (yB Y_Mo_canBe) 30 = .ok (.iaload, 1) := by decide +kernel
theorem d_Mo_canBe_31 : decode (yB Y_Mo_canBe) 31 = .ok (.invokevirtual 484, 3) := by decide +kernel
theorem d_Mo_canBe_34 : decode (yB Y_Mo_canBe) 34 = .ok (.aload_n 0, 1) := by decide +kernel
theorem d_Mo_canBe_35 : decode (yB Y_Mo_canBe) 35 = .ok (.getfield 13, 3) := by decide +kernel
theorem d_Mo_canBe_38 : decode (yB Y_Mo_canBe) 38 = .ok (.bipush 65, 2) := by decide +kernel
theorem d_Mo_canBe_40 : decode (yB Y_Mo_canBe) 40 = .ok (.iconst 2, 1) := by decide +kernel
theorem d_Mo_canBe_41 : decode (yB Y_Mo_canBe) 41 = .ok (.iload_n 3, 1) := by decide +kernel
theorem d_Mo_canBe_42 : decode (yB Y_Mo_canBe) 42 = .ok (.imul, 1) := by decide +kernel
theorem d_Mo_canBe_43 : decode (yB Y_Mo_canBe) 43 = .ok (.iadd, 1) := by decide +kernel
theorem d_Mo_canBe_44 : decode (yB Y_Mo_canBe) 44 = .ok (.iconst 1, 1) := by decide +kernel
theorem d_Mo_canBe_45 : decode (yB Y_Mo_canBe) 45 = .ok (.iadd, 1) := by decide +kernel
theorem d_Mo_canBe_46 : decode (yB Y_Mo_canBe) 46 = .ok (.iaload, 1) := by decide +kernel
theorem d_Mo_canBe_47 : decode (yB Y_Mo_canBe) 47 = .ok (.if_icmp .ne 7, 3) := by decide +kernel
theorem d_Mo_canBe_50 : decode (yB Y_Mo_canBe) 50 = .ok (.iconst 1, 1) := by decide +kernel
theorem d_Mo_canBe_51 : decode (yB Y_Mo_canBe) 51 = .ok (.goto 4, 3) := by decide +kernel
theorem d_Mo_canBe_54 : decode (yB Y_Mo_canBe) 54 = .ok (.iconst 0, 1) := by decide +kernel
theorem d_Mo_canBe_55 : decode (yB Y_Mo_canBe) 55 = .ok (.istore_n 2, 1) := by decide +kernel
theorem d_Mo_canBe_56 : decode (yB Y_Mo_canBe) 56 = .ok (.iinc 3 1, 3) := by decide +kernel
theorem d_Mo_canBe_59 : decode (yB Y_Mo_canBe) 59 = .ok (.goto (-55), 3) := by decide +kernel
theorem d_Mo_canBe_62 : decode (yB Y_Mo_canBe) 62 = .ok (.iload_n 2, 1) := by decide +kernel
theorem d_Mo_canBe_63 : decode (yB Y_Mo_canBe) 63 = .ok (.ireturn, 1) := by decide +kernel
def F_Mo_canBe_b55 (n : Nat) (E : zE) (S : zS) (r4 : Nat × Int32 × Int32 × Int32 × zH → Option (Bool × zH)) (a0 : Nat) (x1 : Int32) (x3 : Int32) (s0 : Int32) (M : zH) : Option (Bool × zH) :=
  r4 (a0, x1, s0, x3 + 1, M)
def F_Mo_canBe_L4 (n : Nat) (E : zE) (S : zS) (r4 : Nat × Int32 × Int32 × Int32 × zH → Option (Bool × zH)) (a0 : Nat) (x1 : Int32) (x2 : Int32) (x3 : Int32) (M : zH) : Option (Bool × zH) :=
  (zgR S a0 11 3).bind fun b_1 =>
  (zldI S M b_1 1).bind fun v_2 =>
  if v_2 ≤ x3 then
    (zbl x2).bind fun z_4 =>
    some (z_4, M)
  else
    if x2 = 0 then
      (zbl x2).bind fun z_6 =>
      some (z_6, M)
    else
      (zldI S M b_1 (65 + (2 * x3))).bind fun v_7 =>
      (F_Mo_fallsOn n E S a0 x1 v_7 M).bind fun q_8 =>
      (zldI S q_8.2 b_1 ((65 + (2 * x3)) + 1)).bind fun v_9 =>
      if q_8.1 = v_9 then
        F_Mo_canBe_b55 n E S r4 a0 x1 x3 1 q_8.2
      else
        F_Mo_canBe_b55 n E S r4 a0 x1 x3 0 q_8.2
def F_Mo_canBe_b4 (n : Nat) (E : zE) (S : zS) : Nat × Int32 × Int32 × Int32 × zH → Option (Bool × zH) := zfix (fun r4 s => F_Mo_canBe_L4 n E S r4 s.1 s.2.1 s.2.2.1 s.2.2.2.1 s.2.2.2.2) n
def F_Mo_canBe (n : Nat) (E : zE) (S : zS) (a0 : Nat) (x1 : Int32) (M : zH) : Option (Bool × zH) :=
  F_Mo_canBe_b4 n E S (a0, x1, 1, 0, M)
theorem K_Mo_canBe_b55 (n : Nat) (E : zE) (S : zS) (r4 : Nat × Int32 × Int32 × Int32 × zH → Option (Bool × zH)) (a0 : Nat) (x1 : Int32) (x3 : Int32) (s0 : Int32) (M : zH) (r : Bool) (M' : zH) (hr4 : ∀ (a0 : Nat) (x1 : Int32) (x2 : Int32) (x3 : Int32) (M : zH), r4 (a0, x1, x2, x3, M) = some (r, M') → zG E Y_Mo_canBe (some (.int (bI r)), S, M') 4 [(0, .ref a0), (1, .int x1), (2, .int x2), (3, .int x3)] [] S M 0 0) (h : F_Mo_canBe_b55 n E S r4 a0 x1 x3 s0 M = some (r, M')) : zG E Y_Mo_canBe (some (.int (bI r)), S, M') 55 [(0, .ref a0), (1, .int x1), (3, .int x3)] [.int s0] S M 0 0 := by
  unfold F_Mo_canBe_b55 at h
  refine zi_istore_n [(2, .int s0), (0, .ref a0), (1, .int x1), (3, .int x3)] d_Mo_canBe_55 (by decide) rfl ?_
  refine zi_iinc 3 (x3 + 1) [(3, .int (x3 + 1)), (2, .int s0), (0, .ref a0), (1, .int x1)] d_Mo_canBe_56 rfl rfl (by decide) rfl ?_
  refine zi_goto (tgt := 4) d_Mo_canBe_59 rfl ?_
  refine zi_lo [(0, .ref a0), (1, .int x1), (2, .int s0), (3, .int (x3 + 1))] [2, 3, 1, 0] rfl ?_
  exact hr4 a0 x1 s0 (x3 + 1) M h
theorem K_Mo_canBe_L4 (n : Nat) (E : zE) (S : zS) (r4 : Nat × Int32 × Int32 × Int32 × zH → Option (Bool × zH)) (a0 : Nat) (x1 : Int32) (x2 : Int32) (x3 : Int32) (M : zH) (r : Bool) (M' : zH) (hr4 : ∀ (a0 : Nat) (x1 : Int32) (x2 : Int32) (x3 : Int32) (M : zH), r4 (a0, x1, x2, x3, M) = some (r, M') → zG E Y_Mo_canBe (some (.int (bI r)), S, M') 4 [(0, .ref a0), (1, .int x1), (2, .int x2), (3, .int x3)] [] S M 0 0) (h : F_Mo_canBe_L4 n E S r4 a0 x1 x2 x3 M = some (r, M')) : zG E Y_Mo_canBe (some (.int (bI r)), S, M') 4 [(0, .ref a0), (1, .int x1), (2, .int x2), (3, .int x3)] [] S M 0 0 := by
  unfold F_Mo_canBe_L4 at h
  refine zi_iload_n 3 d_Mo_canBe_4 rfl ?_
  refine zi_aload_n 0 d_Mo_canBe_5 rfl ?_
  obtain ⟨b_1, eb_1, h⟩ := zbind h
  refine zo_getR 9 zkd_11 3 d_Mo_canBe_6 eb_1 rfl tw_1232 rfl ?_
  refine zi_iconst 1 d_Mo_canBe_9 rfl ?_
  obtain ⟨v_2, ev_2, h⟩ := zbind h
  refine zo_iald 11 d_Mo_canBe_10 ev_2 rfl ?_
  refine zi_icmp_ge (tgt := 62) d_Mo_canBe_11 rfl (fun c_3 => ?_) (fun c_3 => ?_)
  · rw [if_pos c_3] at h
    refine zi_iload_n 2 d_Mo_canBe_62 rfl ?_
    obtain ⟨z_4, ez_4, h⟩ := zbind h
    cases h
    exact zo_retB d_Mo_canBe_63 (Nat.le_of_ble_eq_true rfl) (Nat.le_of_ble_eq_true rfl) (zbl_s ez_4)
  · rw [if_neg c_3] at h
    refine zi_iload_n 2 d_Mo_canBe_14 rfl ?_
    refine zi_if_eq (tgt := 62) d_Mo_canBe_15 rfl (fun c_5 => ?_) (fun c_5 => ?_)
    · rw [if_pos c_5] at h
      refine zi_iload_n 2 d_Mo_canBe_62 rfl ?_
      obtain ⟨z_6, ez_6, h⟩ := zbind h
      cases h
      exact zo_retB d_Mo_canBe_63 (Nat.le_of_ble_eq_true rfl) (Nat.le_of_ble_eq_true rfl) (zbl_s ez_6)
    · rw [if_neg c_5] at h
      refine zi_aload_n 0 d_Mo_canBe_18 rfl ?_
      refine zi_iload_n 1 d_Mo_canBe_19 rfl ?_
      refine zi_aload_n 0 d_Mo_canBe_20 rfl ?_
      refine zo_getR 24 zkd_11 3 d_Mo_canBe_21 eb_1 rfl tw_1232 rfl ?_
      refine zi_bipush 65 d_Mo_canBe_24 rfl ?_
      refine zi_iconst 2 d_Mo_canBe_26 rfl ?_
      refine zi_iload_n 3 d_Mo_canBe_27 rfl ?_
      refine zi_imul d_Mo_canBe_28 ?_
      refine zi_iadd d_Mo_canBe_29 ?_
      obtain ⟨v_7, ev_7, h⟩ := zbind h
      refine zo_iald 31 d_Mo_canBe_30 ev_7 rfl ?_
      obtain ⟨q_8, eq_8, h⟩ := zbind h
      refine zo_virt (k' := 0) (n' := 0) 34 [.int x1, .int v_7] [] [.int q_8.1] zkd_11 (zgR_s eb_1).1 (C_Mo_fallsOn n E S a0 x1 v_7 M q_8.1 q_8.2 eq_8) d_Mo_canBe_31 tw_1788 tw_1785 tw_1787 ts_93 tw_13 dd_Mo_fallsOn ⟨Nat.le_of_ble_eq_true rfl, Nat.le_of_ble_eq_true rfl, Nat.le_of_ble_eq_true rfl, Nat.le_of_ble_eq_true rfl⟩ (Nat.le_of_ble_eq_true rfl) rfl rfl rfl rfl ?_
      refine zi_aload_n 0 d_Mo_canBe_34 rfl ?_
      refine zo_getR 38 zkd_11 3 d_Mo_canBe_35 eb_1 rfl tw_1232 rfl ?_
      refine zi_bipush 65 d_Mo_canBe_38 rfl ?_
      refine zi_iconst 2 d_Mo_canBe_40 rfl ?_
      refine zi_iload_n 3 d_Mo_canBe_41 rfl ?_
      refine zi_imul d_Mo_canBe_42 ?_
      refine zi_iadd d_Mo_canBe_43 ?_
      refine zi_iconst 1 d_Mo_canBe_44 rfl ?_
      refine zi_iadd d_Mo_canBe_45 ?_
      obtain ⟨v_9, ev_9, h⟩ := zbind h
      refine zo_iald 47 d_Mo_canBe_46 ev_9 rfl ?_
      refine zi_icmp_ne (tgt := 54) d_Mo_canBe_47 rfl (fun c_10 => ?_) (fun c_10 => ?_)
      · rw [if_neg c_10] at h
        refine zi_iconst 0 d_Mo_canBe_54 rfl ?_
        refine zi_lo [(0, .ref a0), (1, .int x1), (3, .int x3)] [0, 1, 3] rfl ?_
        exact K_Mo_canBe_b55 n E S r4 a0 x1 x3 0 q_8.2 r M' hr4 h
      · rw [if_pos c_10] at h
        refine zi_iconst 1 d_Mo_canBe_50 rfl ?_
        refine zi_goto (tgt := 55) d_Mo_canBe_51 rfl ?_
        refine zi_lo [(0, .ref a0), (1, .int x1), (3, .int x3)] [0, 1, 3] rfl ?_
        exact K_Mo_canBe_b55 n E S r4 a0 x1 x3 1 q_8.2 r M' hr4 h
theorem K_Mo_canBe_b4 (n : Nat) (E : zE) (S : zS) (a0 : Nat) (x1 : Int32) (x2 : Int32) (x3 : Int32) (M : zH) (r : Bool) (M' : zH)  (h : F_Mo_canBe_b4 n E S (a0, x1, x2, x3, M) = some (r, M')) : zG E Y_Mo_canBe (some (.int (bI r)), S, M') 4 [(0, .ref a0), (1, .int x1), (2, .int x2), (3, .int x3)] [] S M 0 0 := by
  have key : ∀ (k : Nat) (a0 : Nat) (x1 : Int32) (x2 : Int32) (x3 : Int32) (M : zH), zfix (fun r4 s => F_Mo_canBe_L4 n E S r4 s.1 s.2.1 s.2.2.1 s.2.2.2.1 s.2.2.2.2) k (a0, x1, x2, x3, M) = some (r, M') → zG E Y_Mo_canBe (some (.int (bI r)), S, M') 4 [(0, .ref a0), (1, .int x1), (2, .int x2), (3, .int x3)] [] S M 0 0 := by
    intro k
    induction k with
    | zero => intro a0 x1 x2 x3 M h; cases h
    | succ k ih => intro a0 x1 x2 x3 M h; exact K_Mo_canBe_L4 n E S _ a0 x1 x2 x3 M r M'  (fun a0 x1 x2 x3 M h => ih a0 x1 x2 x3 M h) h
  exact key n a0 x1 x2 x3 M h
theorem K_Mo_canBe (n : Nat) (E : zE) (S : zS) (a0 : Nat) (x1 : Int32) (M : zH) (r : Bool) (M' : zH)  (h : F_Mo_canBe n E S a0 x1 M = some (r, M')) : zG E Y_Mo_canBe (some (.int (bI r)), S, M') 0 [(0, .ref a0), (1, .int x1)] [] S M 0 0 := by
  unfold F_Mo_canBe at h
  refine zi_iconst 1 d_Mo_canBe_0 rfl ?_
  refine zi_istore_n [(2, .int 1), (0, .ref a0), (1, .int x1)] d_Mo_canBe_1 (by decide) rfl ?_
  refine zi_iconst 0 d_Mo_canBe_2 rfl ?_
  refine zi_istore_n [(3, .int 0), (2, .int 1), (0, .ref a0), (1, .int x1)] d_Mo_canBe_3 (by decide) rfl ?_
  refine zi_lo [(0, .ref a0), (1, .int x1), (2, .int 1), (3, .int 0)] [2, 3, 1, 0] rfl ?_
  exact K_Mo_canBe_b4 n E S a0 x1 1 0 M r M'  h
theorem C_Mo_canBe (n : Nat) (E : zE) (S : zS) (a0 : Nat) (x1 : Int32) (M : zH) (r : Bool) (M' : zH) (h : F_Mo_canBe n E S a0 x1 M = some (r, M')) : zC E Y_Mo_canBe [.ref a0, .int x1] S M (some (.int (bI r)), S, M') :=
  zC.of (Or.inl (show plainName "NightColanderModel" = true by decide)) (Nat.le_of_ble_eq_true rfl) (bI_nar r) (K_Mo_canBe n E S a0 x1 M r M' h)
theorem d_Mo_inDigits_0 : decode (yB Y_Mo_inDigits) 0 = .ok (.sipush 1000, 3) := by decide +kernel
theorem d_Mo_inDigits_3 : decode (yB Y_Mo_inDigits) 3 = .ok (.iload_n 0, 1) := by decide +kernel
theorem d_Mo_inDigits_4 : decode (yB Y_Mo_inDigits) 4 = .ok (.iconst 0, 1) := by decide +kernel
theorem d_Mo_inDigits_5 : decode (yB Y_Mo_inDigits) 5 = .ok (.invokestatic 481, 3) := by decide +kernel
theorem d_Mo_inDigits_8 : decode (yB Y_Mo_inDigits) 8 = .ok (.imul, 1) := by decide +kernel
theorem d_Mo_inDigits_9 : decode (yB Y_Mo_inDigits) 9 = .ok (.bipush 100, 2) := by decide +kernel
theorem d_Mo_inDigits_11 : decode (yB Y_Mo_inDigits) 11 = .ok (.iload_n 0, 1) := by decide +kernel
theorem d_Mo_inDigits_12 : decode (yB Y_Mo_inDigits) 12 = .ok (.iconst 1, 1) := by decide +kernel
theorem d_Mo_inDigits_13 : decode (yB Y_Mo_inDigits) 13 = .ok (.invokestatic 481, 3) := by decide +kernel
theorem d_Mo_inDigits_16 : decode (yB Y_Mo_inDigits) 16 = .ok (.imul, 1) := by decide +kernel
theorem d_Mo_inDigits_17 : decode (yB Y_Mo_inDigits) 17 = .ok (.iadd, 1) := by decide +kernel
theorem d_Mo_inDigits_18 : decode (yB Y_Mo_inDigits) 18 = .ok (.bipush 10, 2) := by decide +kernel
theorem d_Mo_inDigits_20 : decode (yB Y_Mo_inDigits) 20 = .ok (.iload_n 0, 1) := by decide +kernel
theorem d_Mo_inDigits_21 : decode (yB Y_Mo_inDigits) 21 = .ok (.iconst 2, 1) := by decide +kernel
theorem d_Mo_inDigits_22 : decode (yB Y_Mo_inDigits) 22 = .ok (.invokestatic 481, 3) := by decide +kernel
theorem d_Mo_inDigits_25 : decode (yB Y_Mo_inDigits) 25 = .ok (.imul, 1) := by decide +kernel
theorem d_Mo_inDigits_26 : decode (yB Y_Mo_inDigits) 26 = .ok (.iadd, 1) := by decide +kernel
theorem d_Mo_inDigits_27 : decode (yB Y_Mo_inDigits) 27 = .ok (.iload_n 0, 1) := by decide +kernel
theorem d_Mo_inDigits_28 : decode (yB Y_Mo_inDigits) 28 = .ok (.iconst 3, 1) := by decide +kernel
theorem d_Mo_inDigits_29 : decode (yB Y_Mo_inDigits) 29 = .ok (.invokestatic 481, 3) := by decide +kernel
theorem d_Mo_inDigits_32 : decode (yB Y_Mo_inDigits) 32 = .ok (.iadd, 1) := by decide +kernel
theorem d_Mo_inDigits_33 : decode (yB Y_Mo_inDigits) 33 = .ok (.ireturn, 1) := by decide +kernel
def F_Mo_inDigits (n : Nat) (E : zE) (S : zS) (x0 : Int32) (M : zH) : Option (Int32 × zH) :=
  (F_Mo_turnOf n E S x0 0 M).bind fun q_1 =>
  (F_Mo_turnOf n E S x0 1 q_1.2).bind fun q_2 =>
  (F_Mo_turnOf n E S x0 2 q_2.2).bind fun q_3 =>
  (F_Mo_turnOf n E S x0 3 q_3.2).bind fun q_4 =>
  some ((((1000 * q_1.1) + (100 * q_2.1)) + (10 * q_3.1)) + q_4.1, q_4.2)
theorem K_Mo_inDigits (n : Nat) (E : zE) (S : zS) (x0 : Int32) (M : zH) (r : Int32) (M' : zH)  (h : F_Mo_inDigits n E S x0 M = some (r, M')) : zG E Y_Mo_inDigits (some (.int r), S, M') 0 [(0, .int x0)] [] S M 0 0 := by
  unfold F_Mo_inDigits at h
  refine zi_sipush 1000 d_Mo_inDigits_0 rfl ?_
  refine zi_iload_n 0 d_Mo_inDigits_3 rfl ?_
  refine zi_iconst 0 d_Mo_inDigits_4 rfl ?_
  obtain ⟨q_1, eq_1, h⟩ := zbind h
  refine zo_stat (k' := 0) (n' := 0) 8 [.int x0, .int 0] [.int 1000] [.int q_1.1, .int 1000] (C_Mo_turnOf n E S x0 0 M q_1.1 q_1.2 eq_1) d_Mo_inDigits_5 tw_1791 tw_1789 tw_1790 tw_13 dd_Mo_turnOf ⟨Nat.le_of_ble_eq_true rfl, Nat.le_of_ble_eq_true rfl, Nat.le_of_ble_eq_true rfl, Nat.le_of_ble_eq_true rfl⟩ (Nat.le_of_ble_eq_true rfl) rfl rfl rfl rfl ?_
  refine zi_imul d_Mo_inDigits_8 ?_
  refine zi_bipush 100 d_Mo_inDigits_9 rfl ?_
  refine zi_iload_n 0 d_Mo_inDigits_11 rfl ?_
  refine zi_iconst 1 d_Mo_inDigits_12 rfl ?_
  obtain ⟨q_2, eq_2, h⟩ := zbind h
  refine zo_stat (k' := 0) (n' := 0) 16 [.int x0, .int 1] [.int 100, .int (1000 * q_1.1)] [.int q_2.1, .int 100, .int (1000 * q_1.1)] (C_Mo_turnOf n E S x0 1 q_1.2 q_2.1 q_2.2 eq_2) d_Mo_inDigits_13 tw_1791 tw_1789 tw_1790 tw_13 dd_Mo_turnOf ⟨Nat.le_of_ble_eq_true rfl, Nat.le_of_ble_eq_true rfl, Nat.le_of_ble_eq_true rfl, Nat.le_of_ble_eq_true rfl⟩ (Nat.le_of_ble_eq_true rfl) rfl rfl rfl rfl ?_
  refine zi_imul d_Mo_inDigits_16 ?_
  refine zi_iadd d_Mo_inDigits_17 ?_
  refine zi_bipush 10 d_Mo_inDigits_18 rfl ?_
  refine zi_iload_n 0 d_Mo_inDigits_20 rfl ?_
  refine zi_iconst 2 d_Mo_inDigits_21 rfl ?_
  obtain ⟨q_3, eq_3, h⟩ := zbind h
  refine zo_stat (k' := 0) (n' := 0) 25 [.int x0, .int 2] [.int 10, .int ((1000 * q_1.1) + (100 * q_2.1))] [.int q_3.1, .int 10, .int ((1000 * q_1.1) + (100 * q_2.1))] (C_Mo_turnOf n E S x0 2 q_2.2 q_3.1 q_3.2 eq_3) d_Mo_inDigits_22 tw_1791 tw_1789 tw_1790 tw_13 dd_Mo_turnOf ⟨Nat.le_of_ble_eq_true rfl, Nat.le_of_ble_eq_true rfl, Nat.le_of_ble_eq_true rfl, Nat.le_of_ble_eq_true rfl⟩ (Nat.le_of_ble_eq_true rfl) rfl rfl rfl rfl ?_
  refine zi_imul d_Mo_inDigits_25 ?_
  refine zi_iadd d_Mo_inDigits_26 ?_
  refine zi_iload_n 0 d_Mo_inDigits_27 rfl ?_
  refine zi_iconst 3 d_Mo_inDigits_28 rfl ?_
  obtain ⟨q_4, eq_4, h⟩ := zbind h
  refine zo_stat (k' := 0) (n' := 0) 32 [.int x0, .int 3] [.int (((1000 * q_1.1) + (100 * q_2.1)) + (10 * q_3.1))] [.int q_4.1, .int (((1000 * q_1.1) + (100 * q_2.1)) + (10 * q_3.1))] (C_Mo_turnOf n E S x0 3 q_3.2 q_4.1 q_4.2 eq_4) d_Mo_inDigits_29 tw_1791 tw_1789 tw_1790 tw_13 dd_Mo_turnOf ⟨Nat.le_of_ble_eq_true rfl, Nat.le_of_ble_eq_true rfl, Nat.le_of_ble_eq_true rfl, Nat.le_of_ble_eq_true rfl⟩ (Nat.le_of_ble_eq_true rfl) rfl rfl rfl rfl ?_
  refine zi_iadd d_Mo_inDigits_32 ?_
  cases h
  exact zo_ret d_Mo_inDigits_33 (Nat.le_of_ble_eq_true rfl) (Nat.le_of_ble_eq_true rfl) rfl
theorem C_Mo_inDigits (n : Nat) (E : zE) (S : zS) (x0 : Int32) (M : zH) (r : Int32) (M' : zH) (h : F_Mo_inDigits n E S x0 M = some (r, M')) : zC E Y_Mo_inDigits [.int x0] S M (some (.int r), S, M') :=
  zC.of (Or.inl (show plainName "NightColanderModel" = true by decide)) (Nat.le_of_ble_eq_true rfl) (trivial) (K_Mo_inDigits n E S x0 M r M' h)
theorem d_Mo_layFalls_0 : decode (yB Y_Mo_layFalls) 0 = .ok (.iconst 0, 1) := by decide +kernel
theorem d_Mo_layFalls_1 : decode (yB Y_Mo_layFalls) 1 = .ok (.istore_n 1, 1) := by decide +kernel
theorem d_Mo_layFalls_2 : decode (yB Y_Mo_layFalls) 2 = .ok (.iload_n 1, 1) := by decide +kernel
theorem d_Mo_layFalls_3 : decode (yB Y_Mo_layFalls) 3 = .ok (.iconst 4, 1) := by decide +kernel
theorem d_Mo_layFalls_4 : decode (yB Y_Mo_layFalls) 4 = .ok (.if_icmp .ge 91, 3) := by decide +kernel
theorem d_Mo_layFalls_7 : decode (yB Y_Mo_layFalls) 7 = .ok (.iconst 0, 1) := by decide +kernel
theorem d_Mo_layFalls_8 : decode (yB Y_Mo_layFalls) 8 = .ok (.istore_n 2, 1) := by decide +kernel
theorem d_Mo_layFalls_9 : decode (yB Y_Mo_layFalls) 9 = .ok (.iload_n 2, 1) := by decide +kernel
theorem d_Mo_layFalls_10 : decode (yB Y_Mo_layFalls) 10 = .ok (.bipush 8, 2) := by decide +kernel
theorem d_Mo_layFalls_12 : decode (yB Y_Mo_layFalls) 12 = .ok (.if_icmp .ge 77, 3) := by decide +kernel
theorem d_Mo_layFalls_15 : decode (yB Y_Mo_layFalls) 15 = .ok (.iconst 0, 1) := by decide +kernel
theorem d_Mo_layFalls_16 : decode (yB Y_Mo_layFalls) 16 = .ok (.istore_n 3, 1) := by decide +kernel
theorem d_Mo_layFalls_17 : decode (yB Y_Mo_layFalls) 17 = .ok (.iload_n 3, 1) := by decide +kernel
theorem d_Mo_layFalls_18 : decode (yB Y_Mo_layFalls) 18 = .ok (.bipush 8, 2) := by decide +kernel
theorem d_Mo_layFalls_20 : decode (yB Y_Mo_layFalls) 20 = .ok (.if_icmp .ge 63, 3) := by decide +kernel
theorem d_Mo_layFalls_23 : decode (yB Y_Mo_layFalls) 23 = .ok (.aload_n 0, 1) := by decide +kernel
theorem d_Mo_layFalls_24 : decode (yB Y_Mo_layFalls) 24 = .ok (.iload_n 1, 1) := by decide +kernel
theorem d_Mo_layFalls_25 : decode (yB Y_Mo_layFalls) 25 = .ok (.iload_n 3, 1) := by decide +kernel
theorem d_Mo_layFalls_26 : decode (yB Y_Mo_layFalls) 26 = .ok (.iload_n 2, 1) := by decide +kernel
theorem d_Mo_layFalls_27 : decode (yB Y_Mo_layFalls) 27 = .ok (.invokevirtual 442, 3) := by decide +kernel
theorem d_Mo_layFalls_30 : decode (yB Y_Mo_layFalls) 30 = .ok (.istore 4, 2) := by decide +kernel
theorem d_Mo_layFalls_32 : decode (yB Y_Mo_layFalls) 32 = .ok (.aload_n 0, 1) := by decide +kernel
theorem d_Mo_layFalls_33 : decode (yB Y_Mo_layFalls) 33 = .ok (.getfield 124, 3) := by decide +kernel
theorem d_Mo_layFalls_36 : decode (yB Y_Mo_layFalls) 36 = .ok (.bipush 64, 2) := by decide +kernel
theorem d_Mo_layFalls_38 : decode (yB Y_Mo_layFalls) 38 = .ok (.iload_n 1, 1) := by decide +kernel
theorem d_Mo_layFalls_39 : decode (yB Y_Mo_layFalls) 39 = .ok (.imul, 1) := by decide +kernel
theorem d_Mo_layFalls_40 : decode (yB Y_Mo_layFalls) 40 = .ok (.bipush 8, 2) := by decide +kernel
theorem d_Mo_layFalls_42 : decode (yB Y_Mo_layFalls) 42 = .ok (.iload_n 2, 1) := by decide +kernel
theorem d_Mo_layFalls_43 : decode (yB Y_Mo_layFalls) 43 = .ok (.imul, 1) := by decide +kernel
theorem d_Mo_layFalls_44 : decode (yB Y_Mo_layFalls) 44 = .ok (.iadd, 1) := by decide +kernel
theorem d_Mo_layFalls_45 : decode (yB Y_Mo_layFalls) 45 = .ok (.iload_n 3, 1) := by decide +kernel
theorem d_Mo_layFalls_46 : decode (yB Y_Mo_layFalls) 46 = .ok (.iadd, 1) := by decide +kernel
theorem d_Mo_layFalls_47 : decode (yB Y_Mo_layFalls) 47 = .ok (.aload_n 0, 1) := by decide +kernel
theorem d_Mo_layFalls_48 : decode (yB Y_Mo_layFalls) 48 = .ok (.getfield 13, 3) := by decide +kernel
theorem d_Mo_layFalls_51 : decode (yB Y_Mo_layFalls) 51 = .ok (.bipush 44, 2) := by decide +kernel
theorem d_Mo_layFalls_53 : decode (yB Y_Mo_layFalls) 53 = .ok (.iload_n 1, 1) := by decide +kernel
theorem d_Mo_layFalls_54 : decode (yB Y_Mo_layFalls) 54 = .ok (.iadd, 1) := by decide +kernel
theorem d_Mo_layFalls_55 : decode (yB Y_Mo_layFalls) 55 = .ok (.iaload, 1) := by decide +kernel
theorem d_Mo_layFalls_56 : decode (yB Y_Mo_layFalls) 56 = .ok (.iload 4, 2) := by decide +kernel
theorem d_Mo_layFalls_58 : decode (yB Y_Mo_layFalls) 58 = .ok (.invokestatic 197, 3) := by decide +kernel
theorem d_Mo_layFalls_61 : decode (yB Y_Mo_layFalls) 61 = .ok (.ifCond .eq 7, 3) := by decide +kernel
theorem d_Mo_layFalls_64 : decode (yB Y_Mo_layFalls) 64 = .ok (.iconst 0, 1) := by decide +kernel
theorem d_Mo_layFalls_65 : decode (yB Y_Mo_layFalls) 65 = .ok (.goto 11, 3) := by decide +kernel
theorem d_Mo_layFalls_68 : decode (yB Y_Mo_layFalls) 68 = .ok (.aload_n 0, 1) := by decide +kernel
theorem d_Mo_layFalls_69 : decode (yB Y_Mo_layFalls) 69 = .ok (.iload_n 1, 1) := by decide +kernel
theorem d_Mo_layFalls_70 : decode (yB Y_Mo_layFalls) 70 = .ok (.iload 4, 2) := by decide +kernel
theorem d_Mo_layFalls_72 : decode (yB Y_Mo_layFalls) 72 = .ok (.iload_n 3, 1) := by decide +kernel
theorem d_Mo_layFalls_73 : decode (yB Y_Mo_layFalls) 73 = .ok (.invokevirtual 201, 3) := by decide +kernel
theorem d_Mo_layFalls_76 : decode (yB Y_Mo_layFalls) 76 = .ok (.iastore, 1) := by decide +kernel
theorem d_Mo_layFalls_77 : decode (yB Y_Mo_layFalls) 77 = .ok (.iinc 3 1, 3) := by decide +kernel
theorem d_Mo_layFalls_80 : decode (yB Y_Mo_layFalls) 80 = .ok (.goto (-63), 3) := by decide +kernel
theorem d_Mo_layFalls_83 : decode (yB Y_Mo_layFalls) 83 = .ok (.iinc 2 1, 3) := by decide +kernel
theorem d_Mo_layFalls_86 : decode (yB Y_Mo_layFalls) 86 = .ok (.goto (-77), 3) := by decide +kernel
theorem d_Mo_layFalls_89 : decode (yB Y_Mo_layFalls) 89 = .ok (.iinc 1 1, 3) := by decide +kernel
theorem d_Mo_layFalls_92 : decode (yB Y_Mo_layFalls) 92 = .ok (.goto (-90), 3) := by decide +kernel
theorem d_Mo_layFalls_95 : decode (yB Y_Mo_layFalls) 95 = .ok (.return_, 1) := by decide +kernel
def F_Mo_layFalls_b76 (n : Nat) (E : zE) (S : zS) (r2 : Nat × Int32 × zH → Option (zH)) (r9 : Nat × Int32 × Int32 × zH → Option (zH)) (r17 : Nat × Int32 × Int32 × Int32 × zH → Option (zH)) (a0 : Nat) (x1 : Int32) (x2 : Int32) (x3 : Int32) (s0 : Int32) (s1 : Int32) (u2 : Nat) (M : zH) : Option (zH) :=
  (zstI S M u2 s1 s0).bind fun m_1 =>
  r17 (a0, x1, x2, x3 + 1, m_1)
def F_Mo_layFalls_L17 (n : Nat) (E : zE) (S : zS) (r2 : Nat × Int32 × zH → Option (zH)) (r9 : Nat × Int32 × Int32 × zH → Option (zH)) (r17 : Nat × Int32 × Int32 × Int32 × zH → Option (zH)) (a0 : Nat) (x1 : Int32) (x2 : Int32) (x3 : Int32) (M : zH) : Option (zH) :=
  if 8 ≤ x3 then
    r9 (a0, x1, x2 + 1, M)
  else
    (zck S a0 11).bind fun u_3 =>
    (F_Mo_holeAbove n E S a0 x1 x3 x2 M).bind fun q_4 =>
    (zgR S a0 11 45).bind fun b_5 =>
    (zgR S a0 11 3).bind fun b_6 =>
    (zldI S q_4.2 b_6 (44 + x1)).bind fun v_7 =>
    (F_Mo_is n E S v_7 q_4.1 q_4.2).bind fun q_8 =>
    if q_8.1 = true then
      F_Mo_layFalls_b76 n E S r2 r9 r17 a0 x1 x2 x3 0 (((64 * x1) + (8 * x2)) + x3) b_5 q_8.2
    else
      (F_Mo_runsOf n E S a0 x1 q_4.1 x3 q_8.2).bind fun q_10 =>
      F_Mo_layFalls_b76 n E S r2 r9 r17 a0 x1 x2 x3 q_10.1 (((64 * x1) + (8 * x2)) + x3) b_5 q_10.2
def F_Mo_layFalls_b17 (n : Nat) (E : zE) (S : zS) (r2 : Nat × Int32 × zH → Option (zH)) (r9 : Nat × Int32 × Int32 × zH → Option (zH)) : Nat × Int32 × Int32 × Int32 × zH → Option (zH) := zfix (fun r17 s => F_Mo_layFalls_L17 n E S r2 r9 r17 s.1 s.2.1 s.2.2.1 s.2.2.2.1 s.2.2.2.2) n
def F_Mo_layFalls_L9 (n : Nat) (E : zE) (S : zS) (r2 : Nat × Int32 × zH → Option (zH)) (r9 : Nat × Int32 × Int32 × zH → Option (zH)) (a0 : Nat) (x1 : Int32) (x2 : Int32) (M : zH) : Option (zH) :=
  if 8 ≤ x2 then
    r2 (a0, x1 + 1, M)
  else
    F_Mo_layFalls_b17 n E S r2 r9 (a0, x1, x2, 0, M)
def F_Mo_layFalls_b9 (n : Nat) (E : zE) (S : zS) (r2 : Nat × Int32 × zH → Option (zH)) : Nat × Int32 × Int32 × zH → Option (zH) := zfix (fun r9 s => F_Mo_layFalls_L9 n E S r2 r9 s.1 s.2.1 s.2.2.1 s.2.2.2) n
def F_Mo_layFalls_L2 (n : Nat) (E : zE) (S : zS) (r2 : Nat × Int32 × zH → Option (zH)) (a0 : Nat) (x1 : Int32) (M : zH) : Option (zH) :=
  if 4 ≤ x1 then
    some (M)
  else
    F_Mo_layFalls_b9 n E S r2 (a0, x1, 0, M)
def F_Mo_layFalls_b2 (n : Nat) (E : zE) (S : zS) : Nat × Int32 × zH → Option (zH) := zfix (fun r2 s => F_Mo_layFalls_L2 n E S r2 s.1 s.2.1 s.2.2) n
def F_Mo_layFalls (n : Nat) (E : zE) (S : zS) (a0 : Nat) (M : zH) : Option (zH) :=
  F_Mo_layFalls_b2 n E S (a0, 0, M)
theorem K_Mo_layFalls_b76 (n : Nat) (E : zE) (S : zS) (r2 : Nat × Int32 × zH → Option (zH)) (r9 : Nat × Int32 × Int32 × zH → Option (zH)) (r17 : Nat × Int32 × Int32 × Int32 × zH → Option (zH)) (a0 : Nat) (x1 : Int32) (x2 : Int32) (x3 : Int32) (s0 : Int32) (s1 : Int32) (u2 : Nat) (M : zH) (M' : zH) (hr2 : ∀ (a0 : Nat) (x1 : Int32) (M : zH), r2 (a0, x1, M) = some M' → zG E Y_Mo_layFalls (none, S, M') 2 [(0, .ref a0), (1, .int x1)] [] S M 0 0) (hr9 : ∀ (a0 : Nat) (x1 : Int32) (x2 : Int32) (M : zH), r9 (a0, x1, x2, M) = some M' → zG E Y_Mo_layFalls (none, S, M') 9 [(0, .ref a0), (1, .int x1), (2, .int x2)] [] S M 0 0) (hr17 : ∀ (a0 : Nat) (x1 : Int32) (x2 : Int32) (x3 : Int32) (M : zH), r17 (a0, x1, x2, x3, M) = some M' → zG E Y_Mo_layFalls (none, S, M') 17 [(0, .ref a0), (1, .int x1), (2, .int x2), (3, .int x3)] [] S M 0 0) (h : F_Mo_layFalls_b76 n E S r2 r9 r17 a0 x1 x2 x3 s0 s1 u2 M = some M') : zG E Y_Mo_layFalls (none, S, M') 76 [(0, .ref a0), (1, .int x1), (2, .int x2), (3, .int x3)] [.int s0, .int s1, .ref u2] S M 0 0 := by
  unfold F_Mo_layFalls_b76 at h
  obtain ⟨m_1, em_1, h⟩ := zbind h
  refine zo_iast 77 d_Mo_layFalls_76 em_1 rfl ?_
  refine zi_iinc 3 (x3 + 1) [(3, .int (x3 + 1)), (0, .ref a0), (1, .int x1), (2, .int x2)] d_Mo_layFalls_77 rfl rfl (by decide) rfl ?_
  refine zi_goto (tgt := 17) d_Mo_layFalls_80 rfl ?_
  refine zi_lo [(0, .ref a0), (1, .int x1), (2, .int x2), (3, .int (x3 + 1))] [1, 2, 3, 0] rfl ?_
  exact hr17 a0 x1 x2 (x3 + 1) m_1 h
theorem K_Mo_layFalls_L17 (n : Nat) (E : zE) (S : zS) (r2 : Nat × Int32 × zH → Option (zH)) (r9 : Nat × Int32 × Int32 × zH → Option (zH)) (r17 : Nat × Int32 × Int32 × Int32 × zH → Option (zH)) (a0 : Nat) (x1 : Int32) (x2 : Int32) (x3 : Int32) (M : zH) (M' : zH) (hr2 : ∀ (a0 : Nat) (x1 : Int32) (M : zH), r2 (a0, x1, M) = some M' → zG E Y_Mo_layFalls (none, S, M') 2 [(0, .ref a0), (1, .int x1)] [] S M 0 0) (hr9 : ∀ (a0 : Nat) (x1 : Int32) (x2 : Int32) (M : zH), r9 (a0, x1, x2, M) = some M' → zG E Y_Mo_layFalls (none, S, M') 9 [(0, .ref a0), (1, .int x1), (2, .int x2)] [] S M 0 0) (hr17 : ∀ (a0 : Nat) (x1 : Int32) (x2 : Int32) (x3 : Int32) (M : zH), r17 (a0, x1, x2, x3, M) = some M' → zG E Y_Mo_layFalls (none, S, M') 17 [(0, .ref a0), (1, .int x1), (2, .int x2), (3, .int x3)] [] S M 0 0) (h : F_Mo_layFalls_L17 n E S r2 r9 r17 a0 x1 x2 x3 M = some M') : zG E Y_Mo_layFalls (none, S, M') 17 [(0, .ref a0), (1, .int x1), (2, .int x2), (3, .int x3)] [] S M 0 0 := by
  unfold F_Mo_layFalls_L17 at h
  refine zi_iload_n 3 d_Mo_layFalls_17 rfl ?_
  refine zi_bipush 8 d_Mo_layFalls_18 rfl ?_
  refine zi_icmp_ge (tgt := 83) d_Mo_layFalls_20 rfl (fun c_2 => ?_) (fun c_2 => ?_)
  · rw [if_pos c_2] at h
    refine zi_iinc 2 (x2 + 1) [(2, .int (x2 + 1)), (0, .ref a0), (1, .int x1), (3, .int x3)] d_Mo_layFalls_83 rfl rfl (by decide) rfl ?_
    refine zi_goto (tgt := 9) d_Mo_layFalls_86 rfl ?_
    refine zi_lo [(0, .ref a0), (1, .int x1), (2, .int (x2 + 1))] [1, 2, 0] rfl ?_
    exact hr9 a0 x1 (x2 + 1) M h
  · rw [if_neg c_2] at h
    refine zi_aload_n 0 d_Mo_layFalls_23 rfl ?_
    refine zi_iload_n 1 d_Mo_layFalls_24 rfl ?_
    refine zi_iload_n 3 d_Mo_layFalls_25 rfl ?_
    refine zi_iload_n 2 d_Mo_layFalls_26 rfl ?_
    obtain ⟨u_3, eu_3, h⟩ := zbind h
    obtain ⟨q_4, eq_4, h⟩ := zbind h
    refine zo_virt (k' := 0) (n' := 0) 30 [.int x1, .int x3, .int x2] [] [.int q_4.1] zkd_11 (zck_s eu_3) (C_Mo_holeAbove n E S a0 x1 x3 x2 M q_4.1 q_4.2 eq_4) d_Mo_layFalls_27 tw_1527 tw_1524 tw_1526 ts_52 tw_13 dd_Mo_holeAbove ⟨Nat.le_of_ble_eq_true rfl, Nat.le_of_ble_eq_true rfl, Nat.le_of_ble_eq_true rfl, Nat.le_of_ble_eq_true rfl⟩ (Nat.le_of_ble_eq_true rfl) rfl rfl rfl rfl ?_
    refine zi_istore [(4, .int q_4.1), (0, .ref a0), (1, .int x1), (2, .int x2), (3, .int x3)] d_Mo_layFalls_30 (by decide) rfl ?_
    refine zi_aload_n 1 d_Mo_layFalls_32 rfl ?_
    obtain ⟨b_5, eb_5, h⟩ := zbind h
    refine zo_getR 36 zkd_11 45 d_Mo_layFalls_33 eb_5 rfl tw_1274 rfl ?_
    refine zi_bipush 64 d_Mo_layFalls_36 rfl ?_
    refine zi_iload_n 2 d_Mo_layFalls_38 rfl ?_
    refine zi_imul d_Mo_layFalls_39 ?_
    refine zi_bipush 8 d_Mo_layFalls_40 rfl ?_
    refine zi_iload_n 3 d_Mo_layFalls_42 rfl ?_
    refine zi_imul d_Mo_layFalls_43 ?_
    refine zi_iadd d_Mo_layFalls_44 ?_
    refine zi_iload_n 4 d_Mo_layFalls_45 rfl ?_
    refine zi_iadd d_Mo_layFalls_46 ?_
    refine zi_aload_n 1 d_Mo_layFalls_47 rfl ?_
    obtain ⟨b_6, eb_6, h⟩ := zbind h
    refine zo_getR 51 zkd_11 3 d_Mo_layFalls_48 eb_6 rfl tw_1232 rfl ?_
    refine zi_bipush 44 d_Mo_layFalls_51 rfl ?_
    refine zi_iload_n 2 d_Mo_layFalls_53 rfl ?_
    refine zi_iadd d_Mo_layFalls_54 ?_
    obtain ⟨v_7, ev_7, h⟩ := zbind h
    refine zo_iald 56 d_Mo_layFalls_55 ev_7 rfl ?_
    refine zi_iload 0 d_Mo_layFalls_56 rfl ?_
    obtain ⟨q_8, eq_8, h⟩ := zbind h
    refine zo_stat (k' := 0) (n' := 0) 61 [.int v_7, .int q_4.1] [.int (((64 * x1) + (8 * x2)) + x3), .ref b_5] [.int (bI q_8.1), .int (((64 * x1) + (8 * x2)) + x3), .ref b_5] (C_Mo_is n E S v_7 q_4.1 q_4.2 q_8.1 q_8.2 eq_8) d_Mo_layFalls_58 tw_1442 tw_1440 tw_1441 tw_13 dd_Mo_is ⟨Nat.le_of_ble_eq_true rfl, Nat.le_of_ble_eq_true rfl, Nat.le_of_ble_eq_true rfl, Nat.le_of_ble_eq_true rfl⟩ (Nat.le_of_ble_eq_true rfl) rfl rfl rfl rfl ?_
    refine zo_ifeqB d_Mo_layFalls_61 rfl 64 rfl (fun c_9 => ?_) (fun c_9 => ?_)
    · rw [if_neg c_9] at h
      refine zi_aload_n 1 d_Mo_layFalls_68 rfl ?_
      refine zi_iload_n 2 d_Mo_layFalls_69 rfl ?_
      refine zi_iload 0 d_Mo_layFalls_70 rfl ?_
      refine zi_iload_n 4 d_Mo_layFalls_72 rfl ?_
      obtain ⟨q_10, eq_10, h⟩ := zbind h
      refine zo_virt (k' := 0) (n' := 0) 76 [.int x1, .int q_4.1, .int x3] [.int (((64 * x1) + (8 * x2)) + x3), .ref b_5] [.int q_10.1, .int (((64 * x1) + (8 * x2)) + x3), .ref b_5] zkd_11 (zck_s eu_3) (C_Mo_runsOf n E S a0 x1 q_4.1 x3 q_8.2 q_10.1 q_10.2 eq_10) d_Mo_layFalls_73 tw_1446 tw_1443 tw_1445 ts_39 tw_13 dd_Mo_runsOf ⟨Nat.le_of_ble_eq_true rfl, Nat.le_of_ble_eq_true rfl, Nat.le_of_ble_eq_true rfl, Nat.le_of_ble_eq_true rfl⟩ (Nat.le_of_ble_eq_true rfl) rfl rfl rfl rfl ?_
      refine zi_lo [(0, .ref a0), (1, .int x1), (2, .int x2), (3, .int x3)] [1, 2, 3, 4] rfl ?_
      exact K_Mo_layFalls_b76 n E S r2 r9 r17 a0 x1 x2 x3 q_10.1 (((64 * x1) + (8 * x2)) + x3) b_5 q_10.2 M' hr2 hr9 hr17 h
    · rw [if_pos c_9] at h
      refine zi_iconst 0 d_Mo_layFalls_64 rfl ?_
      refine zi_goto (tgt := 76) d_Mo_layFalls_65 rfl ?_
      refine zi_lo [(0, .ref a0), (1, .int x1), (2, .int x2), (3, .int x3)] [1, 2, 3, 4] rfl ?_
      exact K_Mo_layFalls_b76 n E S r2 r9 r17 a0 x1 x2 x3 0 (((64 * x1) + (8 * x2)) + x3) b_5 q_8.2 M' hr2 hr9 hr17 h
theorem K_Mo_layFalls_b17 (n : Nat) (E : zE) (S : zS) (r2 : Nat × Int32 × zH → Option (zH)) (r9 : Nat × Int32 × Int32 × zH → Option (zH)) (a0 : Nat) (x1 : Int32) (x2 : Int32) (x3 : Int32) (M : zH) (M' : zH) (hr2 : ∀ (a0 : Nat) (x1 : Int32) (M : zH), r2 (a0, x1, M) = some M' → zG E Y_Mo_layFalls (none, S, M') 2 [(0, .ref a0), (1, .int x1)] [] S M 0 0) (hr9 : ∀ (a0 : Nat) (x1 : Int32) (x2 : Int32) (M : zH), r9 (a0, x1, x2, M) = some M' → zG E Y_Mo_layFalls (none, S, M') 9 [(0, .ref a0), (1, .int x1), (2, .int x2)] [] S M 0 0) (h : F_Mo_layFalls_b17 n E S r2 r9 (a0, x1, x2, x3, M) = some M') : zG E Y_Mo_layFalls (none, S, M') 17 [(0, .ref a0), (1, .int x1), (2, .int x2), (3, .int x3)] [] S M 0 0 := by
  have key : ∀ (k : Nat) (a0 : Nat) (x1 : Int32) (x2 : Int32) (x3 : Int32) (M : zH), zfix (fun r17 s => F_Mo_layFalls_L17 n E S r2 r9 r17 s.1 s.2.1 s.2.2.1 s.2.2.2.1 s.2.2.2.2) k (a0, x1, x2, x3, M) = some M' → zG E Y_Mo_layFalls (none, S, M') 17 [(0, .ref a0), (1, .int x1), (2, .int x2), (3, .int x3)] [] S M 0 0 := by
    intro k
    induction k with
    | zero => intro a0 x1 x2 x3 M h; cases h
    | succ k ih => intro a0 x1 x2 x3 M h; exact K_Mo_layFalls_L17 n E S r2 r9 _ a0 x1 x2 x3 M M' hr2 hr9 (fun a0 x1 x2 x3 M h => ih a0 x1 x2 x3 M h) h
  exact key n a0 x1 x2 x3 M h
theorem K_Mo_layFalls_L9 (n : Nat) (E : zE) (S : zS) (r2 : Nat × Int32 × zH → Option (zH)) (r9 : Nat × Int32 × Int32 × zH → Option (zH)) (a0 : Nat) (x1 : Int32) (x2 : Int32) (M : zH) (M' : zH) (hr2 : ∀ (a0 : Nat) (x1 : Int32) (M : zH), r2 (a0, x1, M) = some M' → zG E Y_Mo_layFalls (none, S, M') 2 [(0, .ref a0), (1, .int x1)] [] S M 0 0) (hr9 : ∀ (a0 : Nat) (x1 : Int32) (x2 : Int32) (M : zH), r9 (a0, x1, x2, M) = some M' → zG E Y_Mo_layFalls (none, S, M') 9 [(0, .ref a0), (1, .int x1), (2, .int x2)] [] S M 0 0) (h : F_Mo_layFalls_L9 n E S r2 r9 a0 x1 x2 M = some M') : zG E Y_Mo_layFalls (none, S, M') 9 [(0, .ref a0), (1, .int x1), (2, .int x2)] [] S M 0 0 := by
  unfold F_Mo_layFalls_L9 at h
  refine zi_iload_n 2 d_Mo_layFalls_9 rfl ?_
  refine zi_bipush 8 d_Mo_layFalls_10 rfl ?_
  refine zi_icmp_ge (tgt := 89) d_Mo_layFalls_12 rfl (fun c_11 => ?_) (fun c_11 => ?_)
  · rw [if_pos c_11] at h
    refine zi_iinc 1 (x1 + 1) [(1, .int (x1 + 1)), (0, .ref a0), (2, .int x2)] d_Mo_layFalls_89 rfl rfl (by decide) rfl ?_
    refine zi_goto (tgt := 2) d_Mo_layFalls_92 rfl ?_
    refine zi_lo [(0, .ref a0), (1, .int (x1 + 1))] [1, 0] rfl ?_
    exact hr2 a0 (x1 + 1) M h
  · rw [if_neg c_11] at h
    refine zi_iconst 0 d_Mo_layFalls_15 rfl ?_
    refine zi_istore_n [(3, .int 0), (0, .ref a0), (1, .int x1), (2, .int x2)] d_Mo_layFalls_16 (by decide) rfl ?_
    refine zi_lo [(0, .ref a0), (1, .int x1), (2, .int x2), (3, .int 0)] [1, 2, 3, 0] rfl ?_
    exact K_Mo_layFalls_b17 n E S r2 r9 a0 x1 x2 0 M M' hr2 hr9 h
theorem K_Mo_layFalls_b9 (n : Nat) (E : zE) (S : zS) (r2 : Nat × Int32 × zH → Option (zH)) (a0 : Nat) (x1 : Int32) (x2 : Int32) (M : zH) (M' : zH) (hr2 : ∀ (a0 : Nat) (x1 : Int32) (M : zH), r2 (a0, x1, M) = some M' → zG E Y_Mo_layFalls (none, S, M') 2 [(0, .ref a0), (1, .int x1)] [] S M 0 0) (h : F_Mo_layFalls_b9 n E S r2 (a0, x1, x2, M) = some M') : zG E Y_Mo_layFalls (none, S, M') 9 [(0, .ref a0), (1, .int x1), (2, .int x2)] [] S M 0 0 := by
  have key : ∀ (k : Nat) (a0 : Nat) (x1 : Int32) (x2 : Int32) (M : zH), zfix (fun r9 s => F_Mo_layFalls_L9 n E S r2 r9 s.1 s.2.1 s.2.2.1 s.2.2.2) k (a0, x1, x2, M) = some M' → zG E Y_Mo_layFalls (none, S, M') 9 [(0, .ref a0), (1, .int x1), (2, .int x2)] [] S M 0 0 := by
    intro k
    induction k with
    | zero => intro a0 x1 x2 M h; cases h
    | succ k ih => intro a0 x1 x2 M h; exact K_Mo_layFalls_L9 n E S r2 _ a0 x1 x2 M M' hr2 (fun a0 x1 x2 M h => ih a0 x1 x2 M h) h
  exact key n a0 x1 x2 M h
theorem K_Mo_layFalls_L2 (n : Nat) (E : zE) (S : zS) (r2 : Nat × Int32 × zH → Option (zH)) (a0 : Nat) (x1 : Int32) (M : zH) (M' : zH) (hr2 : ∀ (a0 : Nat) (x1 : Int32) (M : zH), r2 (a0, x1, M) = some M' → zG E Y_Mo_layFalls (none, S, M') 2 [(0, .ref a0), (1, .int x1)] [] S M 0 0) (h : F_Mo_layFalls_L2 n E S r2 a0 x1 M = some M') : zG E Y_Mo_layFalls (none, S, M') 2 [(0, .ref a0), (1, .int x1)] [] S M 0 0 := by
  unfold F_Mo_layFalls_L2 at h
  refine zi_iload_n 1 d_Mo_layFalls_2 rfl ?_
  refine zi_iconst 4 d_Mo_layFalls_3 rfl ?_
  refine zi_icmp_ge (tgt := 95) d_Mo_layFalls_4 rfl (fun c_12 => ?_) (fun c_12 => ?_)
  · rw [if_pos c_12] at h
    cases h
    exact zo_ret d_Mo_layFalls_95 (Nat.le_of_ble_eq_true rfl) (Nat.le_of_ble_eq_true rfl) rfl
  · rw [if_neg c_12] at h
    refine zi_iconst 0 d_Mo_layFalls_7 rfl ?_
    refine zi_istore_n [(2, .int 0), (0, .ref a0), (1, .int x1)] d_Mo_layFalls_8 (by decide) rfl ?_
    refine zi_lo [(0, .ref a0), (1, .int x1), (2, .int 0)] [1, 2, 0] rfl ?_
    exact K_Mo_layFalls_b9 n E S r2 a0 x1 0 M M' hr2 h
theorem K_Mo_layFalls_b2 (n : Nat) (E : zE) (S : zS) (a0 : Nat) (x1 : Int32) (M : zH) (M' : zH)  (h : F_Mo_layFalls_b2 n E S (a0, x1, M) = some M') : zG E Y_Mo_layFalls (none, S, M') 2 [(0, .ref a0), (1, .int x1)] [] S M 0 0 := by
  have key : ∀ (k : Nat) (a0 : Nat) (x1 : Int32) (M : zH), zfix (fun r2 s => F_Mo_layFalls_L2 n E S r2 s.1 s.2.1 s.2.2) k (a0, x1, M) = some M' → zG E Y_Mo_layFalls (none, S, M') 2 [(0, .ref a0), (1, .int x1)] [] S M 0 0 := by
    intro k
    induction k with
    | zero => intro a0 x1 M h; cases h
    | succ k ih => intro a0 x1 M h; exact K_Mo_layFalls_L2 n E S _ a0 x1 M M'  (fun a0 x1 M h => ih a0 x1 M h) h
  exact key n a0 x1 M h
theorem K_Mo_layFalls (n : Nat) (E : zE) (S : zS) (a0 : Nat) (M : zH) (M' : zH)  (h : F_Mo_layFalls n E S a0 M = some M') : zG E Y_Mo_layFalls (none, S, M') 0 [(0, .ref a0)] [] S M 0 0 := by
  unfold F_Mo_layFalls at h
  refine zi_iconst 0 d_Mo_layFalls_0 rfl ?_
  refine zi_istore_n [(1, .int 0), (0, .ref a0)] d_Mo_layFalls_1 (by decide) rfl ?_
  refine zi_lo [(0, .ref a0), (1, .int 0)] [1, 0] rfl ?_
  exact K_Mo_layFalls_b2 n E S a0 0 M M'  h
theorem C_Mo_layFalls (n : Nat) (E : zE) (S : zS) (a0 : Nat) (M : zH) (M' : zH) (h : F_Mo_layFalls n E S a0 M = some M') : zC E Y_Mo_layFalls [.ref a0] S M (none, S, M') :=
  zC.of (Or.inl (show plainName "NightColanderModel" = true by decide)) (Nat.le_of_ble_eq_true rfl) (trivial) (K_Mo_layFalls n E S a0 M M' h)
theorem d_Mo_settings_0 : decode (yB Y_Mo_settings) 0 = .ok (.aload_n 0, 1) := by decide +kernel
theorem d_Mo_settings_1 : decode (yB Y_Mo_settings) 1 = .ok (.iconst 0, 1) := by decide +kernel
theorem d_Mo_settings_2 : decode (yB Y_Mo_settings) 2 = .ok (.putfield 156, 3) := by decide +kernel
theorem d_Mo_settings_5 : decode (yB Y_Mo_settings) 5 = .ok (.aload_n 0, 1) := by decide +kernel
theorem d_Mo_settings_6 : decode (yB Y_Mo_settings) 6 = .ok (.invokevirtual 487, 3) := by decide +kernel
theorem d_Mo_settings_9 : decode (yB Y_Mo_settings) 9 = .ok (.iconst 0, 1) := by decide +kernel
theorem d_Mo_settings_10 : decode (yB Y_Mo_settings) 10 = .ok (.istore_n 2, 1) := by decide +kernel
theorem d_Mo_settings_11 : decode (yB Y_Mo_settings) 11 = .ok (.iconst (-1), 1) := by decide +kernel
theorem d_Mo_settings_12 : decode (yB Y_Mo_settings) 12 = .ok (.istore_n 3, 1) := by decide +kernel
theorem d_Mo_settings_13 : decode (yB Y_Mo_settings) 13 = .ok (.iconst 0, 1) := by decide +kernel
theorem d_Mo_settings_14 : decode (yB Y_Mo_settings) 14 = .ok (.istore 4, 2) := by decide +kernel
theorem d_Mo_settings_16 : decode (yB Y_Mo_settings) 16 = .ok (.iload 4, 2) := by decide +kernel
theorem d_Mo_settings_18 : decode (yB Y_Mo_settings) 18 = .ok (.sipush 4096, 3) := by decide +kernel
theorem d_Mo_settings_21 : decode (yB Y_Mo_settings) 21 = .ok (.if_icmp .ge 36, 3) := by decide +kernel
theorem d_Mo_settings_24 : decode (yB Y_Mo_settings) 24 = .ok (.aload_n 0, 1) := by decide +kernel
theorem d_Mo_settings_25 : decode (yB Y_Mo_settings) 25 = .ok (.iload 4, 2) := by decide +kernel
theorem d_Mo_settings_27 : decode (yB Y_Mo_settings) 27 = .ok (.invokevirtual 490, 3) := by decide +kernel
theorem d_Mo_settings_30 : decode (yB Y_Mo_settings) 30 = .ok (.ifCond .eq 21, 3) := by decide +kernel
theorem d_Mo_settings_33 : decode (yB Y_Mo_settings) 33 = .ok (.iload_n 2, 1) := by decide +kernel
theorem d_Mo_settings_34 : decode (yB Y_Mo_settings) 34 = .ok (.iload_n 1, 1) := by decide +kernel
theorem d_Mo_settings_35 : decode (yB Y_Mo_settings) 35 = .ok (.if_icmp .ne 11, 3) := by decide +kernel
theorem d_Mo_settings_38 : decode (yB Y_Mo_settings) 38 = .ok (.iload 4, 2) := by decide +kernel
theorem d_Mo_settings_40 : decode (yB Y_Mo_settings) 40 = .ok (.invokestatic 493, 3) := by decide +kernel
theorem d_Mo_settings_43 : decode (yB Y_Mo_settings) 43 = .ok (.goto 4, 3) := by decide +kernel
theorem d_Mo_settings_46 : decode (yB Y_Mo_settings) 46 = .ok (.iload_n 3, 1) := by decide +kernel
theorem d_Mo_settings_47 : decode (yB Y_Mo_settings) 47 = .ok (.istore_n 3, 1) := by decide +kernel
theorem d_Mo_settings_48 : decode (yB Y_Mo_settings) 48 = .ok (.iinc 2 1, 3) := by decide +kernel
theorem d_Mo_settings_51 : decode (yB Y_Mo_settings) 51 = .ok (.iinc 4 1, 3) := by decide +kernel
theorem d_Mo_settings_54 : decode (yB Y_Mo_settings) 54 = .ok (.goto (-38), 3) := by decide +kernel
theorem d_Mo_settings_57 : decode (yB Y_Mo_settings) 57 = .ok (.iload_n 1, 1) := by decide +kernel
theorem d_Mo_settings_58 : decode (yB Y_Mo_settings) 58 = .ok (.iconst (-1), 1) := by decide +kernel
theorem d_Mo_settings_59 : decode (yB Y_Mo_settings) 59 = .ok (.if_icmp .ne 7, 3) := by decide +kernel
theorem d_Mo_settings_62 : decode (yB Y_Mo_settings) 62 = .ok (.iload_n 2, 1) := by decide +kernel
theorem d_Mo_settings_63 : decode (yB Y_Mo_settings) 63 = .ok (.goto 4, 3) := by decide +kernel
theorem d_Mo_settings_66 : decode (yB Y_Mo_settings) 66 = .ok (.iload_n 3, 1) := by decide +kernel
theorem d_Mo_settings_67 : decode (yB Y_Mo_settings) 67 = .ok (.ireturn, 1) := by decide +kernel
def F_Mo_settings_b51 (n : Nat) (E : zE) (S : zS) (r16 : Nat × Int32 × Int32 × Int32 × Int32 × zH → Option (Int32 × zH)) (a0 : Nat) (x1 : Int32) (x2 : Int32) (x3 : Int32) (x4 : Int32) (M : zH) : Option (Int32 × zH) :=
  r16 (a0, x1, x2, x3, x4 + 1, M)
def F_Mo_settings_b47 (n : Nat) (E : zE) (S : zS) (r16 : Nat × Int32 × Int32 × Int32 × Int32 × zH → Option (Int32 × zH)) (a0 : Nat) (x1 : Int32) (x2 : Int32) (x4 : Int32) (s0 : Int32) (M : zH) : Option (Int32 × zH) :=
  F_Mo_settings_b51 n E S r16 a0 x1 (x2 + 1) s0 x4 M
def F_Mo_settings_L16 (n : Nat) (E : zE) (S : zS) (r16 : Nat × Int32 × Int32 × Int32 × Int32 × zH → Option (Int32 × zH)) (a0 : Nat) (x1 : Int32) (x2 : Int32) (x3 : Int32) (x4 : Int32) (M : zH) : Option (Int32 × zH) :=
  if 4096 ≤ x4 then
    if x1 = (-1) then
      some (x2, M)
    else
      some (x3, M)
  else
    (zck S a0 11).bind fun u_3 =>
    (F_Mo_canBe n E S a0 x4 M).bind fun q_4 =>
    if q_4.1 = true then
      if x2 = x1 then
        (F_Mo_inDigits n E S x4 q_4.2).bind fun q_7 =>
        F_Mo_settings_b47 n E S r16 a0 x1 x2 x4 q_7.1 q_7.2
      else
        F_Mo_settings_b47 n E S r16 a0 x1 x2 x4 x3 q_4.2
    else
      F_Mo_settings_b51 n E S r16 a0 x1 x2 x3 x4 q_4.2
def F_Mo_settings_b16 (n : Nat) (E : zE) (S : zS) : Nat × Int32 × Int32 × Int32 × Int32 × zH → Option (Int32 × zH) := zfix (fun r16 s => F_Mo_settings_L16 n E S r16 s.1 s.2.1 s.2.2.1 s.2.2.2.1 s.2.2.2.2.1 s.2.2.2.2.2) n
def F_Mo_settings (n : Nat) (E : zE) (S : zS) (a0 : Nat) (x1 : Int32) (M : zH) : Option (Int32 × zH) :=
  (zpI S M a0 11 0 0).bind fun m_8 =>
  (zck S a0 11).bind fun u_9 =>
  (F_Mo_layFalls n E S a0 m_8).bind fun q_10 =>
  F_Mo_settings_b16 n E S (a0, x1, 0, (-1), 0, q_10)
theorem K_Mo_settings_b51 (n : Nat) (E : zE) (S : zS) (r16 : Nat × Int32 × Int32 × Int32 × Int32 × zH → Option (Int32 × zH)) (a0 : Nat) (x1 : Int32) (x2 : Int32) (x3 : Int32) (x4 : Int32) (M : zH) (r : Int32) (M' : zH) (hr16 : ∀ (a0 : Nat) (x1 : Int32) (x2 : Int32) (x3 : Int32) (x4 : Int32) (M : zH), r16 (a0, x1, x2, x3, x4, M) = some (r, M') → zG E Y_Mo_settings (some (.int r), S, M') 16 [(0, .ref a0), (1, .int x1), (2, .int x2), (3, .int x3), (4, .int x4)] [] S M 0 0) (h : F_Mo_settings_b51 n E S r16 a0 x1 x2 x3 x4 M = some (r, M')) : zG E Y_Mo_settings (some (.int r), S, M') 51 [(0, .ref a0), (1, .int x1), (2, .int x2), (3, .int x3), (4, .int x4)] [] S M 0 0 := by
  unfold F_Mo_settings_b51 at h
  refine zi_iinc 4 (x4 + 1) [(4, .int (x4 + 1)), (0, .ref a0), (1, .int x1), (2, .int x2), (3, .int x3)] d_Mo_settings_51 rfl rfl (by decide) rfl ?_
  refine zi_goto (tgt := 16) d_Mo_settings_54 rfl ?_
  refine zi_lo [(0, .ref a0), (1, .int x1), (2, .int x2), (3, .int x3), (4, .int (x4 + 1))] [1, 2, 3, 4, 0] rfl ?_
  exact hr16 a0 x1 x2 x3 (x4 + 1) M h
theorem K_Mo_settings_b47 (n : Nat) (E : zE) (S : zS) (r16 : Nat × Int32 × Int32 × Int32 × Int32 × zH → Option (Int32 × zH)) (a0 : Nat) (x1 : Int32) (x2 : Int32) (x4 : Int32) (s0 : Int32) (M : zH) (r : Int32) (M' : zH) (hr16 : ∀ (a0 : Nat) (x1 : Int32) (x2 : Int32) (x3 : Int32) (x4 : Int32) (M : zH), r16 (a0, x1, x2, x3, x4, M) = some (r, M') → zG E Y_Mo_settings (some (.int r), S, M') 16 [(0, .ref a0), (1, .int x1), (2, .int x2), (3, .int x3), (4, .int x4)] [] S M 0 0) (h : F_Mo_settings_b47 n E S r16 a0 x1 x2 x4 s0 M = some (r, M')) : zG E Y_Mo_settings (some (.int r), S, M') 47 [(0, .ref a0), (1, .int x1), (2, .int x2), (4, .int x4)] [.int s0] S M 0 0 := by
  unfold F_Mo_settings_b47 at h
  refine zi_istore_n [(3, .int s0), (0, .ref a0), (1, .int x1), (2, .int x2), (4, .int x4)] d_Mo_settings_47 (by decide) rfl ?_
  refine zi_iinc 3 (x2 + 1) [(2, .int (x2 + 1)), (3, .int s0), (0, .ref a0), (1, .int x1), (4, .int x4)] d_Mo_settings_48 rfl rfl (by decide) rfl ?_
  refine zi_lo [(0, .ref a0), (1, .int x1), (2, .int (x2 + 1)), (3, .int s0), (4, .int x4)] [2, 3, 0, 1, 4] rfl ?_
  exact K_Mo_settings_b51 n E S r16 a0 x1 (x2 + 1) s0 x4 M r M' hr16 h
theorem K_Mo_settings_L16 (n : Nat) (E : zE) (S : zS) (r16 : Nat × Int32 × Int32 × Int32 × Int32 × zH → Option (Int32 × zH)) (a0 : Nat) (x1 : Int32) (x2 : Int32) (x3 : Int32) (x4 : Int32) (M : zH) (r : Int32) (M' : zH) (hr16 : ∀ (a0 : Nat) (x1 : Int32) (x2 : Int32) (x3 : Int32) (x4 : Int32) (M : zH), r16 (a0, x1, x2, x3, x4, M) = some (r, M') → zG E Y_Mo_settings (some (.int r), S, M') 16 [(0, .ref a0), (1, .int x1), (2, .int x2), (3, .int x3), (4, .int x4)] [] S M 0 0) (h : F_Mo_settings_L16 n E S r16 a0 x1 x2 x3 x4 M = some (r, M')) : zG E Y_Mo_settings (some (.int r), S, M') 16 [(0, .ref a0), (1, .int x1), (2, .int x2), (3, .int x3), (4, .int x4)] [] S M 0 0 := by
  unfold F_Mo_settings_L16 at h
  refine zi_iload 4 d_Mo_settings_16 rfl ?_
  refine zi_sipush 4096 d_Mo_settings_18 rfl ?_
  refine zi_icmp_ge (tgt := 57) d_Mo_settings_21 rfl (fun c_1 => ?_) (fun c_1 => ?_)
  · rw [if_pos c_1] at h
    refine zi_iload_n 1 d_Mo_settings_57 rfl ?_
    refine zi_iconst (-1) d_Mo_settings_58 rfl ?_
    refine zi_icmp_ne (tgt := 66) d_Mo_settings_59 rfl (fun c_2 => ?_) (fun c_2 => ?_)
    · rw [if_neg c_2] at h
      refine zi_iload_n 3 d_Mo_settings_66 rfl ?_
      cases h
      exact zo_ret d_Mo_settings_67 (Nat.le_of_ble_eq_true rfl) (Nat.le_of_ble_eq_true rfl) rfl
    · rw [if_pos c_2] at h
      refine zi_iload_n 2 d_Mo_settings_62 rfl ?_
      refine zi_goto (tgt := 67) d_Mo_settings_63 rfl ?_
      cases h
      exact zo_ret d_Mo_settings_67 (Nat.le_of_ble_eq_true rfl) (Nat.le_of_ble_eq_true rfl) rfl
  · rw [if_neg c_1] at h
    refine zi_aload_n 0 d_Mo_settings_24 rfl ?_
    refine zi_iload 4 d_Mo_settings_25 rfl ?_
    obtain ⟨u_3, eu_3, h⟩ := zbind h
    obtain ⟨q_4, eq_4, h⟩ := zbind h
    refine zo_virt (k' := 0) (n' := 0) 30 [.int x4] [] [.int (bI q_4.1)] zkd_11 (zck_s eu_3) (C_Mo_canBe n E S a0 x4 M q_4.1 q_4.2 eq_4) d_Mo_settings_27 tw_1784 tw_1781 tw_1783 ts_92 tw_13 dd_Mo_canBe ⟨Nat.le_of_ble_eq_true rfl, Nat.le_of_ble_eq_true rfl, Nat.le_of_ble_eq_true rfl, Nat.le_of_ble_eq_true rfl⟩ (Nat.le_of_ble_eq_true rfl) rfl rfl rfl rfl ?_
    refine zo_ifeqB d_Mo_settings_30 rfl 33 rfl (fun c_5 => ?_) (fun c_5 => ?_)
    · rw [if_neg c_5] at h
      refine zi_lo [(0, .ref a0), (1, .int x1), (2, .int x2), (3, .int x3), (4, .int x4)] [0, 1, 2, 3, 4] rfl ?_
      exact K_Mo_settings_b51 n E S r16 a0 x1 x2 x3 x4 q_4.2 r M' hr16 h
    · rw [if_pos c_5] at h
      refine zi_iload_n 2 d_Mo_settings_33 rfl ?_
      refine zi_iload_n 1 d_Mo_settings_34 rfl ?_
      refine zi_icmp_ne (tgt := 46) d_Mo_settings_35 rfl (fun c_6 => ?_) (fun c_6 => ?_)
      · rw [if_neg c_6] at h
        refine zi_iload_n 3 d_Mo_settings_46 rfl ?_
        refine zi_lo [(0, .ref a0), (1, .int x1), (2, .int x2), (4, .int x4)] [0, 1, 2, 4] rfl ?_
        exact K_Mo_settings_b47 n E S r16 a0 x1 x2 x4 x3 q_4.2 r M' hr16 h
      · rw [if_pos c_6] at h
        refine zi_iload 4 d_Mo_settings_38 rfl ?_
        obtain ⟨q_7, eq_7, h⟩ := zbind h
        refine zo_stat (k' := 0) (n' := 0) 43 [.int x4] [] [.int q_7.1] (C_Mo_inDigits n E S x4 q_4.2 q_7.1 q_7.2 eq_7) d_Mo_settings_40 tw_1794 tw_1792 tw_1793 tw_13 dd_Mo_inDigits ⟨Nat.le_of_ble_eq_true rfl, Nat.le_of_ble_eq_true rfl, Nat.le_of_ble_eq_true rfl, Nat.le_of_ble_eq_true rfl⟩ (Nat.le_of_ble_eq_true rfl) rfl rfl rfl rfl ?_
        refine zi_goto (tgt := 47) d_Mo_settings_43 rfl ?_
        refine zi_lo [(0, .ref a0), (1, .int x1), (2, .int x2), (4, .int x4)] [0, 1, 2, 4] rfl ?_
        exact K_Mo_settings_b47 n E S r16 a0 x1 x2 x4 q_7.1 q_7.2 r M' hr16 h
theorem K_Mo_settings_b16 (n : Nat) (E : zE) (S : zS) (a0 : Nat) (x1 : Int32) (x2 : Int32) (x3 : Int32) (x4 : Int32) (M : zH) (r : Int32) (M' : zH)  (h : F_Mo_settings_b16 n E S (a0, x1, x2, x3, x4, M) = some (r, M')) : zG E Y_Mo_settings (some (.int r), S, M') 16 [(0, .ref a0), (1, .int x1), (2, .int x2), (3, .int x3), (4, .int x4)] [] S M 0 0 := by
  have key : ∀ (k : Nat) (a0 : Nat) (x1 : Int32) (x2 : Int32) (x3 : Int32) (x4 : Int32) (M : zH), zfix (fun r16 s => F_Mo_settings_L16 n E S r16 s.1 s.2.1 s.2.2.1 s.2.2.2.1 s.2.2.2.2.1 s.2.2.2.2.2) k (a0, x1, x2, x3, x4, M) = some (r, M') → zG E Y_Mo_settings (some (.int r), S, M') 16 [(0, .ref a0), (1, .int x1), (2, .int x2), (3, .int x3), (4, .int x4)] [] S M 0 0 := by
    intro k
    induction k with
    | zero => intro a0 x1 x2 x3 x4 M h; cases h
    | succ k ih => intro a0 x1 x2 x3 x4 M h; exact K_Mo_settings_L16 n E S _ a0 x1 x2 x3 x4 M r M'  (fun a0 x1 x2 x3 x4 M h => ih a0 x1 x2 x3 x4 M h) h
  exact key n a0 x1 x2 x3 x4 M h
theorem K_Mo_settings (n : Nat) (E : zE) (S : zS) (a0 : Nat) (x1 : Int32) (M : zH) (r : Int32) (M' : zH)  (h : F_Mo_settings n E S a0 x1 M = some (r, M')) : zG E Y_Mo_settings (some (.int r), S, M') 0 [(0, .ref a0), (1, .int x1)] [] S M 0 0 := by
  unfold F_Mo_settings at h
  refine zi_aload_n 0 d_Mo_settings_0 rfl ?_
  refine zi_iconst 0 d_Mo_settings_1 rfl ?_
  obtain ⟨m_8, em_8, h⟩ := zbind h
  refine zo_putI 5 zkd_11 0 d_Mo_settings_2 em_8 rfl rfl rfl tw_1229 rfl ?_
  refine zi_aload_n 0 d_Mo_settings_5 rfl ?_
  obtain ⟨u_9, eu_9, h⟩ := zbind h
  obtain ⟨q_10, eq_10, h⟩ := zbind h
  refine zo_virt (k' := 0) (n' := 0) 9 [] [] [] zkd_11 (zck_s eu_9) (C_Mo_layFalls n E S a0 m_8 q_10 eq_10) d_Mo_settings_6 tw_1780 tw_1777 tw_1779 ts_91 tw_13 dd_Mo_layFalls ⟨Nat.le_of_ble_eq_true rfl, Nat.le_of_ble_eq_true rfl, Nat.le_of_ble_eq_true rfl, Nat.le_of_ble_eq_true rfl⟩ (Nat.le_of_ble_eq_true rfl) rfl rfl rfl rfl ?_
  refine zi_iconst 0 d_Mo_settings_9 rfl ?_
  refine zi_istore_n [(2, .int 0), (0, .ref a0), (1, .int x1)] d_Mo_settings_10 (by decide) rfl ?_
  refine zi_iconst (-1) d_Mo_settings_11 rfl ?_
  refine zi_istore_n [(3, .int (-1)), (2, .int 0), (0, .ref a0), (1, .int x1)] d_Mo_settings_12 (by decide) rfl ?_
  refine zi_iconst 0 d_Mo_settings_13 rfl ?_
  refine zi_istore [(4, .int 0), (3, .int (-1)), (2, .int 0), (0, .ref a0), (1, .int x1)] d_Mo_settings_14 (by decide) rfl ?_
  refine zi_lo [(0, .ref a0), (1, .int x1), (2, .int 0), (3, .int (-1)), (4, .int 0)] [3, 4, 2, 1, 0] rfl ?_
  exact K_Mo_settings_b16 n E S a0 x1 0 (-1) 0 q_10 r M'  h
theorem C_Mo_settings (n : Nat) (E : zE) (S : zS) (a0 : Nat) (x1 : Int32) (M : zH) (r : Int32) (M' : zH) (h : F_Mo_settings n E S a0 x1 M = some (r, M')) : zC E Y_Mo_settings [.ref a0, .int x1] S M (some (.int r), S, M') :=
  zC.of (Or.inl (show plainName "NightColanderModel" = true by decide)) (Nat.le_of_ble_eq_true rfl) (trivial) (K_Mo_settings n E S a0 x1 M r M' h)
theorem d_Mo_look_0 : decode (yB Y_Mo_look) 0 = .ok (.aload_n 0, 1) := by decide +kernel
theorem d_Mo_look_1 : decode (yB Y_Mo_look) 1 = .ok (.iconst 0, 1) := by decide +kernel
theorem d_Mo_look_2 : decode (yB Y_Mo_look) 2 = .ok (.putfield 156, 3) := by decide +kernel
theorem d_Mo_look_5 : decode (yB Y_Mo_look) 5 = .ok (.iload_n 1, 1) := by decide +kernel
theorem d_Mo_look_6 : decode (yB Y_Mo_look) 6 = .ok (.i2l, 1) := by decide +kernel
theorem d_Mo_look_7 : decode (yB Y_Mo_look) 7 = .ok (.lconst 0, 1) := by decide +kernel
theorem d_Mo_look_8 : decode (yB Y_Mo_look) 8 = .ok (.lconst 1, 1) := by decide +kernel
theorem d_Mo_look_9 : decode (yB Y_Mo_look) 9 = .ok (.invokestatic 176, 3) := by decide +kernel
theorem d_Mo_look_12 : decode (yB Y_Mo_look) 12 = .ok (.ifCond .ne 5, 3) := by decide +kernel
theorem d_Mo_look_15 : decode (yB Y_Mo_look) 15 = .ok (.iconst (-1), 1) := by decide +kernel
theorem d_Mo_look_16 : decode (yB Y_Mo_look) 16 = .ok (.ireturn, 1) := by decide +kernel
theorem d_Mo_look_17 : decode (yB Y_Mo_look) 17 = .ok (.aload_n 0, 1) := by decide +kernel
theorem d_Mo_look_18 : decode (yB Y_Mo_look) 18 = .ok (.invokevirtual 487, 3) := by decide +kernel
theorem d_Mo_look_21 : decode (yB Y_Mo_look) 21 = .ok (.ldc_w 496, 3) := by decide +kernel
theorem d_Mo_look_24 : decode (yB Y_Mo_look) 24 = .ok (.istore_n 2, 1) := by decide +kernel
theorem d_Mo_look_25 : decode (yB Y_Mo_look) 25 = .ok (.iconst (-1), 1) := by decide +kernel
theorem d_Mo_look_26 : decode (yB Y_Mo_look) 26 = .ok (.istore_n 3, 1) := by decide +kernel
theorem d_Mo_look_27 : decode (yB Y_Mo_look) 27 = .ok (.iconst 0, 1) := by decide +kernel
theorem d_Mo_look_28 : decode (yB Y_Mo_look) 28 = .ok (.istore 4, 2) := by decide +kernel
theorem d_Mo_look_30 : decode (yB Y_Mo_look) 30 = .ok (.iload 4, 2) := by decide +kernel
theorem d_Mo_look_32 : decode (yB Y_Mo_look) 32 = .ok (.bipush 8, 2) := by decide +kernel
theorem d_Mo_look_34 : decode (yB Y_Mo_look) 34 = .ok (.if_icmp .ge 146, 3) := by decide +kernel
theorem d_Mo_look_37 : decode (yB Y_Mo_look) 37 = .ok (.iconst 0, 1) := by decide +kernel
theorem d_Mo_look_38 : decode (yB Y_Mo_look) 38 = .ok (.istore 5, 2) := by decide +kernel
theorem d_Mo_look_40 : decode (yB Y_Mo_look) 40 = .ok (.iload 5, 2) := by decide +kernel
theorem d_Mo_look_42 : decode (yB Y_Mo_look) 42 = .ok (.sipush 400, 3) := by decide +kernel
theorem d_Mo_look_45 : decode (yB Y_Mo_look) 45 = .ok (.if_icmp .gt 17, 3) := by decide +kernel
theorem d_Mo_look_48 : decode (yB Y_Mo_look) 48 = .ok (.aload_n 0, 1) := by decide +kernel
theorem d_Mo_look_49 : decode (yB Y_Mo_look) 49 = .ok (.getfield 127, 3) := by decide +kernel
theorem d_Mo_look_52 : decode (yB Y_Mo_look) 52 = .ok (.iload 5, 2) := by decide +kernel
theorem d_Mo_look_54 : decode (yB Y_Mo_look) 54 = .ok (.iconst 0, 1) := by decide +kernel
theorem d_Mo_look_55 : decode (yB Y_Mo_look) 55 = .ok (.iastore, 1) := by decide +kernel
theorem d_Mo_look_56 : decode (yB Y_Mo_look) 56 = .ok (.iinc 5 1, 3) := by decide +kernel
theorem d_Mo_look_59 : decode (yB Y_Mo_look) 59 = .ok (.goto (-19), 3) := by decide +kernel
theorem d_Mo_look_62 : decode (yB Y_Mo_look) 62 = .ok (.iconst 0, 1) := by decide +kernel
theorem d_Mo_look_63 : decode (yB Y_Mo_look) 63 = .ok (.istore 5, 2) := by decide +kernel
theorem d_Mo_look_65 : decode (yB Y_Mo_look) 65 = .ok (.iconst 0, 1) := by decide +kernel
theorem d_Mo_look_66 : decode (yB Y_Mo_look) 66 = .ok (.istore 6, 2) := by decide +kernel
theorem d_Mo_look_68 : decode (yB Y_Mo_look) 68 = .ok (.iload 6, 2) := by decide +kernel
theorem d_Mo_look_70 : decode (yB Y_Mo_look) 70 = .ok (.sipush 4096, 3) := by decide +kernel
theorem d_Mo_look_73 : decode (yB Y_Mo_look) 73 = .ok (.if_icmp .ge 65, 3) := by decide +kernel
theorem d_Mo_look_76 : decode (yB Y_Mo_look) 76 = .ok (.aload_n 0, 1) := by decide +kernel
theorem d_Mo_look_77 : decode (yB Y_Mo_look) 77 = .ok (.iload 6, 2) := by decide +kernel
theorem d_Mo_look_79 : decode (yB Y_Mo_look) 79 = .ok (.invokevirtual 490, 3) := by decide +kernel
theorem d_Mo_look_82 : decode (yB Y_Mo_look) 82 = .ok (.ifCond .eq 50, 3) := by decide +kernel
theorem d_Mo_look_85 : decode (yB Y_Mo_look) 85 = .ok (.aload_n 0, 1) := by decide +kernel
theorem d_Mo_look_86 : decode (yB Y_Mo_look) 86 = .ok (.iload 6, 2) := by decide +kernel
theorem d_Mo_look_88 : decode (yB Y_Mo_look) 88 = .ok (.iload 4, 2) := by decide +kernel
theorem d_Mo_look_90 : decode (yB Y_Mo_look) 90 = .ok (.invokevirtual 484, 3) := by decide +kernel
theorem d_Mo_look_93 : decode (yB Y_Mo_look) 93 = .ok (.istore 7, 2) := by decide +kernel
theorem d_Mo_look_95 : decode (yB Y_Mo_look) 95 = .ok (.aload_n 0, 1) := by decide +kernel
theorem d_Mo_look_96 : decode (yB Y_Mo_look) 96 = .ok (.getfield 127, 3) := by decide +kernel
theorem d_Mo_look_99 : decode (yB Y_Mo_look) 99 = .ok (.iload 7, 2) := by decide +kernel
theorem d_Mo_look_101 : decode (yB Y_Mo_look) 101 = .ok (.dup2, 1) := by decide +kernel
theorem d_Mo_look_102 : decode (yB Y_Mo_look) 102 = .ok (.iaload, 1) := by decide +kernel
theorem d_Mo_look_103 : decode (yB Y_Mo_look) 103 = .ok (.iconst 1, 1) := by decide +kernel
theorem d_Mo_look_104 : decode (yB Y_Mo_look) 104 = .ok (.iadd, 1) := by decide +kernel
theorem d_Mo_look_105 : decode (yB Y_Mo_look) 105 = .ok (.iastore, 1) := by decide +kernel
theorem d_Mo_look_106 : decode (yB Y_Mo_look) 106 = .ok (.aload_n 0, 1) := by decide +kernel
theorem d_Mo_look_107 : decode (yB Y_Mo_look) 107 = .ok (.getfield 127, 3) := by decide +kernel
theorem d_Mo_look_110 : decode (yB Y_Mo_look) 110 = .ok (.iload 7, 2) := by decide +kernel
theorem d_Mo_look_112 : decode (yB Y_Mo_look) 112 = .ok (.iaload, 1) := by decide +kernel
theorem d_Mo_look_113 : decode (yB Y_Mo_look) 113 = .ok (.iload 5, 2) := by decide +kernel
theorem d_Mo_look_115 : decode (yB Y_Mo_look) 115 = .ok (.if_icmp .le 13, 3) := by decide +kernel
theorem d_Mo_look_118 : decode (yB Y_Mo_look) 118 = .ok (.aload_n 0, 1) := by decide +kernel
theorem d_Mo_look_119 : decode (yB Y_Mo_look) 119 = .ok (.getfield 127, 3) := by decide +kernel
theorem d_Mo_look_122 : decode (yB Y_Mo_look) 122 = .ok (.iload 7, 2) := by decide +kernel
theorem d_Mo_look_124 : decode (yB Y_Mo_look) 124 = .ok (.iaload, 1) := by decide +kernel
theorem d_Mo_look_125 : decode (yB Y_Mo_look) 125 = .ok (.goto 5, 3) := by decide +kernel
theorem d_Mo_look_128 : decode (yB Y_Mo_look) 128 = .ok (.iload 5, 2) := by decide +kernel
theorem d_Mo_look_130 : decode (yB Y_Mo_look) 130 = .ok (.istore 5, 2) := by decide +kernel
theorem d_Mo_look_132 : decode (yB Y_Mo_look) 132 = .ok (.iinc 6 1, 3) := by decide +kernel
theorem d_Mo_look_135 : decode (yB Y_Mo_look) 135 = .ok (.goto (-67), 3) := by decide +kernel
theorem d_Mo_look_138 : decode (yB Y_Mo_look) 138 = .ok (.iload 5, 2) := by decide +kernel
theorem d_Mo_look_140 : decode (yB Y_Mo_look) 140 = .ok (.ifCond .le 14, 3) := by decide +kernel
theorem d_Mo_look_143 : decode (yB Y_Mo_look) 143 = .ok (.iload 5, 2) := by decide +kernel
theorem d_Mo_look_145 : decode (yB Y_Mo_look) 145 = .ok (.iload_n 2, 1) := by decide +kernel
theorem d_Mo_look_146 : decode (yB Y_Mo_look) 146 = .ok (.if_icmp .ge 8, 3) := by decide +kernel
theorem d_Mo_look_149 : decode (yB Y_Mo_look) 149 = .ok (.iload 4, 2) := by decide +kernel
theorem d_Mo_look_151 : decode (yB Y_Mo_look) 151 = .ok (.goto 4, 3) := by decide +kernel
theorem d_Mo_look_154 : decode (yB Y_Mo_look) 154 = .ok (.iload_n 3, 1) := by decide +kernel
theorem d_Mo_look_155 : decode (yB Y_Mo_look) 155 = .ok (.istore_n 3, 1) := by decide +kernel
theorem d_Mo_look_156 : decode (yB Y_Mo_look) 156 = .ok (.iload 5, 2) := by decide +kernel
theorem d_Mo_look_158 : decode (yB Y_Mo_look) 158 = .ok (.ifCond .le 14, 3) := by decide +kernel
theorem d_Mo_look_161 : decode (yB Y_Mo_look) 161 = .ok (.iload 5, 2) := by decide +kernel
theorem d_Mo_look_163 : decode (yB Y_Mo_look) 163 = .ok (.iload_n 2, 1) := by decide +kernel
theorem d_Mo_look_164 : decode (yB Y_Mo_look) 164 = .ok (.if_icmp .ge 8, 3) := by decide +kernel
theorem d_Mo_look_167 : decode (yB Y_Mo_look) 167 = .ok (.iload 5, 2) := by decide +kernel
theorem d_Mo_look_169 : decode (yB Y_Mo_look) 169 = .ok (.goto 4, 3) := by decide +kernel
theorem d_Mo_look_172 : decode (yB Y_Mo_look) 172 = .ok (.iload_n 2, 1) := by decide +kernel
theorem d_Mo_look_173 : decode (yB Y_Mo_look) 173 = .ok (.istore_n 2, 1) := by decide +kernel
theorem d_Mo_look_174 : decode (yB Y_Mo_look) 174 = .ok (.iinc 4 1, 3) := by decide +kernel
theorem d_Mo_look_177 : decode (yB Y_Mo_look) 177 = .ok (.goto (-147), 3) := by decide +kernel
theorem d_Mo_look_180 : decode (yB Y_Mo_look) 180 = .ok (.iload_n 3, 1) := by decide +kernel
theorem d_Mo_look_181 : decode (yB Y_Mo_look) 181 = .ok (.iconst (-1), 1) := by decide +kernel
theorem d_Mo_look_182 : decode (yB Y_Mo_look) 182 = .ok (.if_icmp .eq 7, 3) := by decide +kernel
theorem d_Mo_look_185 : decode (yB Y_Mo_look) 185 = .ok (.iload_n 1, 1) := by decide +kernel
theorem d_Mo_look_186 : decode (yB Y_Mo_look) 186 = .ok (.ifCond .ne 7, 3) := by decide +kernel
theorem d_Mo_look_189 : decode (yB Y_Mo_look) 189 = .ok (.iload_n 3, 1) := by decide +kernel
theorem d_Mo_look_190 : decode (yB Y_Mo_look) 190 = .ok (.goto 4, 3) := by decide +kernel
theorem d_Mo_look_193 : decode (yB Y_Mo_look) 193 = .ok (.iload_n 2, 1) := by decide +kernel
theorem d_Mo_look_194 : decode (yB Y_Mo_look) 194 = .ok (.ireturn, 1) := by decide +kernel
def F_Mo_look_b132 (n : Nat) (E : zE) (S : zS) (r30 : Nat × Int32 × Int32 × Int32 × Int32 × zH → Option (Int32 × zH)) (r68 : Nat × Int32 × Int32 × Int32 × Int32 × Int32 × Int32 × zH → Option (Int32 × zH)) (a0 : Nat) (x1 : Int32) (x2 : Int32) (x3 : Int32) (x4 : Int32) (x5 : Int32) (x6 : Int32) (M : zH) : Option (Int32 × zH) :=
  r68 (a0, x1, x2, x3, x4, x5, x6 + 1, M)
def F_Mo_look_b130 (n : Nat) (E : zE) (S : zS) (r30 : Nat × Int32 × Int32 × Int32 × Int32 × zH → Option (Int32 × zH)) (r68 : Nat × Int32 × Int32 × Int32 × Int32 × Int32 × Int32 × zH → Option (Int32 × zH)) (a0 : Nat) (x1 : Int32) (x2 : Int32) (x3 : Int32) (x4 : Int32) (x6 : Int32) (s0 : Int32) (M : zH) : Option (Int32 × zH) :=
  F_Mo_look_b132 n E S r30 r68 a0 x1 x2 x3 x4 s0 x6 M
def F_Mo_look_b173 (n : Nat) (E : zE) (S : zS) (r30 : Nat × Int32 × Int32 × Int32 × Int32 × zH → Option (Int32 × zH)) (a0 : Nat) (x1 : Int32) (x3 : Int32) (x4 : Int32) (s0 : Int32) (M : zH) : Option (Int32 × zH) :=
  r30 (a0, x1, s0, x3, x4 + 1, M)
def F_Mo_look_b172 (n : Nat) (E : zE) (S : zS) (r30 : Nat × Int32 × Int32 × Int32 × Int32 × zH → Option (Int32 × zH)) (a0 : Nat) (x1 : Int32) (x2 : Int32) (x3 : Int32) (x4 : Int32) (M : zH) : Option (Int32 × zH) :=
  F_Mo_look_b173 n E S r30 a0 x1 x3 x4 x2 M
def F_Mo_look_b155 (n : Nat) (E : zE) (S : zS) (r30 : Nat × Int32 × Int32 × Int32 × Int32 × zH → Option (Int32 × zH)) (a0 : Nat) (x1 : Int32) (x2 : Int32) (x4 : Int32) (x5 : Int32) (s0 : Int32) (M : zH) : Option (Int32 × zH) :=
  if x5 ≤ 0 then
    F_Mo_look_b172 n E S r30 a0 x1 x2 s0 x4 M
  else
    if x2 ≤ x5 then
      F_Mo_look_b172 n E S r30 a0 x1 x2 s0 x4 M
    else
      F_Mo_look_b173 n E S r30 a0 x1 s0 x4 x5 M
def F_Mo_look_b154 (n : Nat) (E : zE) (S : zS) (r30 : Nat × Int32 × Int32 × Int32 × Int32 × zH → Option (Int32 × zH)) (a0 : Nat) (x1 : Int32) (x2 : Int32) (x3 : Int32) (x4 : Int32) (x5 : Int32) (M : zH) : Option (Int32 × zH) :=
  F_Mo_look_b155 n E S r30 a0 x1 x2 x4 x5 x3 M
def F_Mo_look_L68 (n : Nat) (E : zE) (S : zS) (r30 : Nat × Int32 × Int32 × Int32 × Int32 × zH → Option (Int32 × zH)) (r68 : Nat × Int32 × Int32 × Int32 × Int32 × Int32 × Int32 × zH → Option (Int32 × zH)) (a0 : Nat) (x1 : Int32) (x2 : Int32) (x3 : Int32) (x4 : Int32) (x5 : Int32) (x6 : Int32) (M : zH) : Option (Int32 × zH) :=
  if 4096 ≤ x6 then
    if x5 ≤ 0 then
      F_Mo_look_b154 n E S r30 a0 x1 x2 x3 x4 x5 M
    else
      if x2 ≤ x5 then
        F_Mo_look_b154 n E S r30 a0 x1 x2 x3 x4 x5 M
      else
        F_Mo_look_b155 n E S r30 a0 x1 x2 x4 x5 x4 M
  else
    (zck S a0 11).bind fun u_6 =>
    (F_Mo_canBe n E S a0 x6 M).bind fun q_7 =>
    if q_7.1 = true then
      (F_Mo_fallsOn n E S a0 x6 x4 q_7.2).bind fun q_9 =>
      (zgR S a0 11 46).bind fun b_10 =>
      (zldI S q_9.2 b_10 q_9.1).bind fun v_11 =>
      (zstI S q_9.2 b_10 q_9.1 (v_11 + 1)).bind fun m_12 =>
      (zldI S m_12 b_10 q_9.1).bind fun v_13 =>
      if v_13 ≤ x5 then
        F_Mo_look_b130 n E S r30 r68 a0 x1 x2 x3 x4 x6 x5 m_12
      else
        (zldI S m_12 b_10 q_9.1).bind fun v_15 =>
        F_Mo_look_b130 n E S r30 r68 a0 x1 x2 x3 x4 x6 v_15 m_12
    else
      F_Mo_look_b132 n E S r30 r68 a0 x1 x2 x3 x4 x5 x6 q_7.2
def F_Mo_look_b68 (n : Nat) (E : zE) (S : zS) (r30 : Nat × Int32 × Int32 × Int32 × Int32 × zH → Option (Int32 × zH)) : Nat × Int32 × Int32 × Int32 × Int32 × Int32 × Int32 × zH → Option (Int32 × zH) := zfix (fun r68 s => F_Mo_look_L68 n E S r30 r68 s.1 s.2.1 s.2.2.1 s.2.2.2.1 s.2.2.2.2.1 s.2.2.2.2.2.1 s.2.2.2.2.2.2.1 s.2.2.2.2.2.2.2) n
def F_Mo_look_L40 (n : Nat) (E : zE) (S : zS) (r30 : Nat × Int32 × Int32 × Int32 × Int32 × zH → Option (Int32 × zH)) (r40 : Nat × Int32 × Int32 × Int32 × Int32 × Int32 × zH → Option (Int32 × zH)) (a0 : Nat) (x1 : Int32) (x2 : Int32) (x3 : Int32) (x4 : Int32) (x5 : Int32) (M : zH) : Option (Int32 × zH) :=
  if 400 < x5 then
    F_Mo_look_b68 n E S r30 (a0, x1, x2, x3, x4, 0, 0, M)
  else
    (zgR S a0 11 46).bind fun b_17 =>
    (zstI S M b_17 x5 0).bind fun m_18 =>
    r40 (a0, x1, x2, x3, x4, x5 + 1, m_18)
def F_Mo_look_b40 (n : Nat) (E : zE) (S : zS) (r30 : Nat × Int32 × Int32 × Int32 × Int32 × zH → Option (Int32 × zH)) : Nat × Int32 × Int32 × Int32 × Int32 × Int32 × zH → Option (Int32 × zH) := zfix (fun r40 s => F_Mo_look_L40 n E S r30 r40 s.1 s.2.1 s.2.2.1 s.2.2.2.1 s.2.2.2.2.1 s.2.2.2.2.2.1 s.2.2.2.2.2.2) n
def F_Mo_look_b189 (n : Nat) (E : zE) (S : zS) (x3 : Int32) (M : zH) : Option (Int32 × zH) :=
  some (x3, M)
def F_Mo_look_L30 (n : Nat) (E : zE) (S : zS) (r30 : Nat × Int32 × Int32 × Int32 × Int32 × zH → Option (Int32 × zH)) (a0 : Nat) (x1 : Int32) (x2 : Int32) (x3 : Int32) (x4 : Int32) (M : zH) : Option (Int32 × zH) :=
  if 8 ≤ x4 then
    if x3 = (-1) then
      F_Mo_look_b189 n E S x3 M
    else
      if x1 = 0 then
        F_Mo_look_b189 n E S x3 M
      else
        some (x2, M)
  else
    F_Mo_look_b40 n E S r30 (a0, x1, x2, x3, x4, 0, M)
def F_Mo_look_b30 (n : Nat) (E : zE) (S : zS) : Nat × Int32 × Int32 × Int32 × Int32 × zH → Option (Int32 × zH) := zfix (fun r30 s => F_Mo_look_L30 n E S r30 s.1 s.2.1 s.2.2.1 s.2.2.2.1 s.2.2.2.2.1 s.2.2.2.2.2) n
def F_Mo_look (n : Nat) (E : zE) (S : zS) (a0 : Nat) (x1 : Int32) (M : zH) : Option (Int32 × zH) :=
  (zpI S M a0 11 0 0).bind fun m_22 =>
  (F_Mo_in n E S x1.toInt64 0 1 m_22).bind fun q_23 =>
  if q_23.1 = true then
    (zck S a0 11).bind fun u_25 =>
    (F_Mo_layFalls n E S a0 q_23.2).bind fun q_26 =>
    F_Mo_look_b30 n E S (a0, x1, 100000000, (-1), 0, q_26)
  else
    some ((-1), q_23.2)
theorem K_Mo_look_b132 (n : Nat) (E : zE) (S : zS) (r30 : Nat × Int32 × Int32 × Int32 × Int32 × zH → Option (Int32 × zH)) (r68 : Nat × Int32 × Int32 × Int32 × Int32 × Int32 × Int32 × zH → Option (Int32 × zH)) (a0 : Nat) (x1 : Int32) (x2 : Int32) (x3 : Int32) (x4 : Int32) (x5 : Int32) (x6 : Int32) (M : zH) (r : Int32) (M' : zH) (hr30 : ∀ (a0 : Nat) (x1 : Int32) (x2 : Int32) (x3 : Int32) (x4 : Int32) (M : zH), r30 (a0, x1, x2, x3, x4, M) = some (r, M') → zG E Y_Mo_look (some (.int r), S, M') 30 [(0, .ref a0), (1, .int x1), (2, .int x2), (3, .int x3), (4, .int x4)] [] S M 0 0) (hr68 : ∀ (a0 : Nat) (x1 : Int32) (x2 : Int32) (x3 : Int32) (x4 : Int32) (x5 : Int32) (x6 : Int32) (M : zH), r68 (a0, x1, x2, x3, x4, x5, x6, M) = some (r, M') → zG E Y_Mo_look (some (.int r), S, M') 68 [(0, .ref a0), (1, .int x1), (2, .int x2), (3, .int x3), (4, .int x4), (5, .int x5), (6, .int x6)] [] S M 0 0) (h : F_Mo_look_b132 n E S r30 r68 a0 x1 x2 x3 x4 x5 x6 M = some (r, M')) : zG E Y_Mo_look (some (.int r), S, M') 132 [(0, .ref a0), (1, .int x1), (2, .int x2), (3, .int x3), (4, .int x4), (5, .int x5), (6, .int x6)] [] S M 0 0 := by
  unfold F_Mo_look_b132 at h
  refine zi_iinc 6 (x6 + 1) [(6, .int (x6 + 1)), (0, .ref a0), (1, .int x1), (2, .int x2), (3, .int x3), (4, .int x4), (5, .int x5)] d_Mo_look_132 rfl rfl (by decide) rfl ?_
  refine zi_goto (tgt := 68) d_Mo_look_135 rfl ?_
  refine zi_lo [(0, .ref a0), (1, .int x1), (2, .int x2), (3, .int x3), (4, .int x4), (5, .int x5), (6, .int (x6 + 1))] [1, 2, 3, 4, 5, 6, 0] rfl ?_
  exact hr68 a0 x1 x2 x3 x4 x5 (x6 + 1) M h
theorem K_Mo_look_b130 (n : Nat) (E : zE) (S : zS) (r30 : Nat × Int32 × Int32 × Int32 × Int32 × zH → Option (Int32 × zH)) (r68 : Nat × Int32 × Int32 × Int32 × Int32 × Int32 × Int32 × zH → Option (Int32 × zH)) (a0 : Nat) (x1 : Int32) (x2 : Int32) (x3 : Int32) (x4 : Int32) (x6 : Int32) (s0 : Int32) (M : zH) (r : Int32) (M' : zH) (hr30 : ∀ (a0 : Nat) (x1 : Int32) (x2 : Int32) (x3 : Int32) (x4 : Int32) (M : zH), r30 (a0, x1, x2, x3, x4, M) = some (r, M') → zG E Y_Mo_look (some (.int r), S, M') 30 [(0, .ref a0), (1, .int x1), (2, .int x2), (3, .int x3), (4, .int x4)] [] S M 0 0) (hr68 : ∀ (a0 : Nat) (x1 : Int32) (x2 : Int32) (x3 : Int32) (x4 : Int32) (x5 : Int32) (x6 : Int32) (M : zH), r68 (a0, x1, x2, x3, x4, x5, x6, M) = some (r, M') → zG E Y_Mo_look (some (.int r), S, M') 68 [(0, .ref a0), (1, .int x1), (2, .int x2), (3, .int x3), (4, .int x4), (5, .int x5), (6, .int x6)] [] S M 0 0) (h : F_Mo_look_b130 n E S r30 r68 a0 x1 x2 x3 x4 x6 s0 M = some (r, M')) : zG E Y_Mo_look (some (.int r), S, M') 130 [(0, .ref a0), (1, .int x1), (2, .int x2), (3, .int x3), (4, .int x4), (6, .int x6)] [.int s0] S M 0 0 := by
  unfold F_Mo_look_b130 at h
  refine zi_istore [(5, .int s0), (0, .ref a0), (1, .int x1), (2, .int x2), (3, .int x3), (4, .int x4), (6, .int x6)] d_Mo_look_130 (by decide) rfl ?_
  refine zi_lo [(0, .ref a0), (1, .int x1), (2, .int x2), (3, .int x3), (4, .int x4), (5, .int s0), (6, .int x6)] [1, 2, 3, 4, 5, 0, 6] rfl ?_
  exact K_Mo_look_b132 n E S r30 r68 a0 x1 x2 x3 x4 s0 x6 M r M' hr30 hr68 h
theorem K_Mo_look_b173 (n : Nat) (E : zE) (S : zS) (r30 : Nat × Int32 × Int32 × Int32 × Int32 × zH → Option (Int32 × zH)) (a0 : Nat) (x1 : Int32) (x3 : Int32) (x4 : Int32) (s0 : Int32) (M : zH) (r : Int32) (M' : zH) (hr30 : ∀ (a0 : Nat) (x1 : Int32) (x2 : Int32) (x3 : Int32) (x4 : Int32) (M : zH), r30 (a0, x1, x2, x3, x4, M) = some (r, M') → zG E Y_Mo_look (some (.int r), S, M') 30 [(0, .ref a0), (1, .int x1), (2, .int x2), (3, .int x3), (4, .int x4)] [] S M 0 0) (h : F_Mo_look_b173 n E S r30 a0 x1 x3 x4 s0 M = some (r, M')) : zG E Y_Mo_look (some (.int r), S, M') 173 [(0, .ref a0), (1, .int x1), (3, .int x3), (4, .int x4)] [.int s0] S M 0 0 := by
  unfold F_Mo_look_b173 at h
  refine zi_istore_n [(2, .int s0), (0, .ref a0), (1, .int x1), (3, .int x3), (4, .int x4)] d_Mo_look_173 (by decide) rfl ?_
  refine zi_iinc 4 (x4 + 1) [(4, .int (x4 + 1)), (2, .int s0), (0, .ref a0), (1, .int x1), (3, .int x3)] d_Mo_look_174 rfl rfl (by decide) rfl ?_
  refine zi_goto (tgt := 30) d_Mo_look_177 rfl ?_
  refine zi_lo [(0, .ref a0), (1, .int x1), (2, .int s0), (3, .int x3), (4, .int (x4 + 1))] [2, 3, 1, 4, 0] rfl ?_
  exact hr30 a0 x1 s0 x3 (x4 + 1) M h
theorem K_Mo_look_b172 (n : Nat) (E : zE) (S : zS) (r30 : Nat × Int32 × Int32 × Int32 × Int32 × zH → Option (Int32 × zH)) (a0 : Nat) (x1 : Int32) (x2 : Int32) (x3 : Int32) (x4 : Int32) (M : zH) (r : Int32) (M' : zH) (hr30 : ∀ (a0 : Nat) (x1 : Int32) (x2 : Int32) (x3 : Int32) (x4 : Int32) (M : zH), r30 (a0, x1, x2, x3, x4, M) = some (r, M') → zG E Y_Mo_look (some (.int r), S, M') 30 [(0, .ref a0), (1, .int x1), (2, .int x2), (3, .int x3), (4, .int x4)] [] S M 0 0) (h : F_Mo_look_b172 n E S r30 a0 x1 x2 x3 x4 M = some (r, M')) : zG E Y_Mo_look (some (.int r), S, M') 172 [(0, .ref a0), (1, .int x1), (2, .int x2), (3, .int x3), (4, .int x4)] [] S M 0 0 := by
  unfold F_Mo_look_b172 at h
  refine zi_iload_n 2 d_Mo_look_172 rfl ?_
  refine zi_lo [(0, .ref a0), (1, .int x1), (3, .int x3), (4, .int x4)] [0, 1, 3, 4] rfl ?_
  exact K_Mo_look_b173 n E S r30 a0 x1 x3 x4 x2 M r M' hr30 h
theorem K_Mo_look_b155 (n : Nat) (E : zE) (S : zS) (r30 : Nat × Int32 × Int32 × Int32 × Int32 × zH → Option (Int32 × zH)) (a0 : Nat) (x1 : Int32) (x2 : Int32) (x4 : Int32) (x5 : Int32) (s0 : Int32) (M : zH) (r : Int32) (M' : zH) (hr30 : ∀ (a0 : Nat) (x1 : Int32) (x2 : Int32) (x3 : Int32) (x4 : Int32) (M : zH), r30 (a0, x1, x2, x3, x4, M) = some (r, M') → zG E Y_Mo_look (some (.int r), S, M') 30 [(0, .ref a0), (1, .int x1), (2, .int x2), (3, .int x3), (4, .int x4)] [] S M 0 0) (h : F_Mo_look_b155 n E S r30 a0 x1 x2 x4 x5 s0 M = some (r, M')) : zG E Y_Mo_look (some (.int r), S, M') 155 [(0, .ref a0), (1, .int x1), (2, .int x2), (4, .int x4), (5, .int x5)] [.int s0] S M 0 0 := by
  unfold F_Mo_look_b155 at h
  refine zi_istore_n [(3, .int s0), (0, .ref a0), (1, .int x1), (2, .int x2), (4, .int x4), (5, .int x5)] d_Mo_look_155 (by decide) rfl ?_
  refine zi_iload 5 d_Mo_look_156 rfl ?_
  refine zi_if_le (tgt := 172) d_Mo_look_158 rfl (fun c_1 => ?_) (fun c_1 => ?_)
  · rw [if_pos c_1] at h
    refine zi_lo [(0, .ref a0), (1, .int x1), (2, .int x2), (3, .int s0), (4, .int x4)] [1, 2, 3, 0, 4] rfl ?_
    exact K_Mo_look_b172 n E S r30 a0 x1 x2 s0 x4 M r M' hr30 h
  · rw [if_neg c_1] at h
    refine zi_iload 5 d_Mo_look_161 rfl ?_
    refine zi_iload_n 3 d_Mo_look_163 rfl ?_
    refine zi_icmp_ge (tgt := 172) d_Mo_look_164 rfl (fun c_2 => ?_) (fun c_2 => ?_)
    · rw [if_pos c_2] at h
      refine zi_lo [(0, .ref a0), (1, .int x1), (2, .int x2), (3, .int s0), (4, .int x4)] [1, 2, 3, 0, 4] rfl ?_
      exact K_Mo_look_b172 n E S r30 a0 x1 x2 s0 x4 M r M' hr30 h
    · rw [if_neg c_2] at h
      refine zi_iload 5 d_Mo_look_167 rfl ?_
      refine zi_goto (tgt := 173) d_Mo_look_169 rfl ?_
      refine zi_lo [(0, .ref a0), (1, .int x1), (3, .int s0), (4, .int x4)] [1, 2, 0, 4] rfl ?_
      exact K_Mo_look_b173 n E S r30 a0 x1 s0 x4 x5 M r M' hr30 h
theorem K_Mo_look_b154 (n : Nat) (E : zE) (S : zS) (r30 : Nat × Int32 × Int32 × Int32 × Int32 × zH → Option (Int32 × zH)) (a0 : Nat) (x1 : Int32) (x2 : Int32) (x3 : Int32) (x4 : Int32) (x5 : Int32) (M : zH) (r : Int32) (M' : zH) (hr30 : ∀ (a0 : Nat) (x1 : Int32) (x2 : Int32) (x3 : Int32) (x4 : Int32) (M : zH), r30 (a0, x1, x2, x3, x4, M) = some (r, M') → zG E Y_Mo_look (some (.int r), S, M') 30 [(0, .ref a0), (1, .int x1), (2, .int x2), (3, .int x3), (4, .int x4)] [] S M 0 0) (h : F_Mo_look_b154 n E S r30 a0 x1 x2 x3 x4 x5 M = some (r, M')) : zG E Y_Mo_look (some (.int r), S, M') 154 [(0, .ref a0), (1, .int x1), (2, .int x2), (3, .int x3), (4, .int x4), (5, .int x5)] [] S M 0 0 := by
  unfold F_Mo_look_b154 at h
  refine zi_iload_n 3 d_Mo_look_154 rfl ?_
  refine zi_lo [(0, .ref a0), (1, .int x1), (2, .int x2), (4, .int x4), (5, .int x5)] [0, 1, 2, 4, 5] rfl ?_
  exact K_Mo_look_b155 n E S r30 a0 x1 x2 x4 x5 x3 M r M' hr30 h
theorem K_Mo_look_L68 (n : Nat) (E : zE) (S : zS) (r30 : Nat × Int32 × Int32 × Int32 × Int32 × zH → Option (Int32 × zH)) (r68 : Nat × Int32 × Int32 × Int32 × Int32 × Int32 × Int32 × zH → Option (Int32 × zH)) (a0 : Nat) (x1 : Int32) (x2 : Int32) (x3 : Int32) (x4 : Int32) (x5 : Int32) (x6 : Int32) (M : zH) (r : Int32) (M' : zH) (hr30 : ∀ (a0 : Nat) (x1 : Int32) (x2 : Int32) (x3 : Int32) (x4 : Int32) (M : zH), r30 (a0, x1, x2, x3, x4, M) = some (r, M') → zG E Y_Mo_look (some (.int r), S, M') 30 [(0, .ref a0), (1, .int x1), (2, .int x2), (3, .int x3), (4, .int x4)] [] S M 0 0) (hr68 : ∀ (a0 : Nat) (x1 : Int32) (x2 : Int32) (x3 : Int32) (x4 : Int32) (x5 : Int32) (x6 : Int32) (M : zH), r68 (a0, x1, x2, x3, x4, x5, x6, M) = some (r, M') → zG E Y_Mo_look (some (.int r), S, M') 68 [(0, .ref a0), (1, .int x1), (2, .int x2), (3, .int x3), (4, .int x4), (5, .int x5), (6, .int x6)] [] S M 0 0) (h : F_Mo_look_L68 n E S r30 r68 a0 x1 x2 x3 x4 x5 x6 M = some (r, M')) : zG E Y_Mo_look (some (.int r), S, M') 68 [(0, .ref a0), (1, .int x1), (2, .int x2), (3, .int x3), (4, .int x4), (5, .int x5), (6, .int x6)] [] S M 0 0 := by
  unfold F_Mo_look_L68 at h
  refine zi_iload 6 d_Mo_look_68 rfl ?_
  refine zi_sipush 4096 d_Mo_look_70 rfl ?_
  refine zi_icmp_ge (tgt := 138) d_Mo_look_73 rfl (fun c_3 => ?_) (fun c_3 => ?_)
  · rw [if_pos c_3] at h
    refine zi_iload 5 d_Mo_look_138 rfl ?_
    refine zi_if_le (tgt := 154) d_Mo_look_140 rfl (fun c_4 => ?_) (fun c_4 => ?_)
    · rw [if_pos c_4] at h
      refine zi_lo [(0, .ref a0), (1, .int x1), (2, .int x2), (3, .int x3), (4, .int x4), (5, .int x5)] [0, 1, 2, 3, 4, 5] rfl ?_
      exact K_Mo_look_b154 n E S r30 a0 x1 x2 x3 x4 x5 M r M' hr30 h
    · rw [if_neg c_4] at h
      refine zi_iload 5 d_Mo_look_143 rfl ?_
      refine zi_iload_n 2 d_Mo_look_145 rfl ?_
      refine zi_icmp_ge (tgt := 154) d_Mo_look_146 rfl (fun c_5 => ?_) (fun c_5 => ?_)
      · rw [if_pos c_5] at h
        refine zi_lo [(0, .ref a0), (1, .int x1), (2, .int x2), (3, .int x3), (4, .int x4), (5, .int x5)] [0, 1, 2, 3, 4, 5] rfl ?_
        exact K_Mo_look_b154 n E S r30 a0 x1 x2 x3 x4 x5 M r M' hr30 h
      · rw [if_neg c_5] at h
        refine zi_iload 4 d_Mo_look_149 rfl ?_
        refine zi_goto (tgt := 155) d_Mo_look_151 rfl ?_
        refine zi_lo [(0, .ref a0), (1, .int x1), (2, .int x2), (4, .int x4), (5, .int x5)] [0, 1, 2, 4, 5] rfl ?_
        exact K_Mo_look_b155 n E S r30 a0 x1 x2 x4 x5 x4 M r M' hr30 h
  · rw [if_neg c_3] at h
    refine zi_aload_n 0 d_Mo_look_76 rfl ?_
    refine zi_iload 6 d_Mo_look_77 rfl ?_
    obtain ⟨u_6, eu_6, h⟩ := zbind h
    obtain ⟨q_7, eq_7, h⟩ := zbind h
    refine zo_virt (k' := 0) (n' := 0) 82 [.int x6] [] [.int (bI q_7.1)] zkd_11 (zck_s eu_6) (C_Mo_canBe n E S a0 x6 M q_7.1 q_7.2 eq_7) d_Mo_look_79 tw_1784 tw_1781 tw_1783 ts_92 tw_13 dd_Mo_canBe ⟨Nat.le_of_ble_eq_true rfl, Nat.le_of_ble_eq_true rfl, Nat.le_of_ble_eq_true rfl, Nat.le_of_ble_eq_true rfl⟩ (Nat.le_of_ble_eq_true rfl) rfl rfl rfl rfl ?_
    refine zo_ifeqB d_Mo_look_82 rfl 85 rfl (fun c_8 => ?_) (fun c_8 => ?_)
    · rw [if_neg c_8] at h
      refine zi_lo [(0, .ref a0), (1, .int x1), (2, .int x2), (3, .int x3), (4, .int x4), (5, .int x5), (6, .int x6)] [0, 1, 2, 3, 4, 5, 6] rfl ?_
      exact K_Mo_look_b132 n E S r30 r68 a0 x1 x2 x3 x4 x5 x6 q_7.2 r M' hr30 hr68 h
    · rw [if_pos c_8] at h
      refine zi_aload_n 0 d_Mo_look_85 rfl ?_
      refine zi_iload 6 d_Mo_look_86 rfl ?_
      refine zi_iload 4 d_Mo_look_88 rfl ?_
      obtain ⟨q_9, eq_9, h⟩ := zbind h
      refine zo_virt (k' := 0) (n' := 0) 93 [.int x6, .int x4] [] [.int q_9.1] zkd_11 (zck_s eu_6) (C_Mo_fallsOn n E S a0 x6 x4 q_7.2 q_9.1 q_9.2 eq_9) d_Mo_look_90 tw_1788 tw_1785 tw_1787 ts_93 tw_13 dd_Mo_fallsOn ⟨Nat.le_of_ble_eq_true rfl, Nat.le_of_ble_eq_true rfl, Nat.le_of_ble_eq_true rfl, Nat.le_of_ble_eq_true rfl⟩ (Nat.le_of_ble_eq_true rfl) rfl rfl rfl rfl ?_
      refine zi_istore [(7, .int q_9.1), (0, .ref a0), (1, .int x1), (2, .int x2), (3, .int x3), (4, .int x4), (5, .int x5), (6, .int x6)] d_Mo_look_93 (by decide) rfl ?_
      refine zi_aload_n 1 d_Mo_look_95 rfl ?_
      obtain ⟨b_10, eb_10, h⟩ := zbind h
      refine zo_getR 99 zkd_11 46 d_Mo_look_96 eb_10 rfl tw_1275 rfl ?_
      refine zi_iload 0 d_Mo_look_99 rfl ?_
      refine zi_dup2 d_Mo_look_101 rfl rfl ?_
      obtain ⟨v_11, ev_11, h⟩ := zbind h
      refine zo_iald 103 d_Mo_look_102 ev_11 rfl ?_
      refine zi_iconst 1 d_Mo_look_103 rfl ?_
      refine zi_iadd d_Mo_look_104 ?_
      obtain ⟨m_12, em_12, h⟩ := zbind h
      refine zo_iast 106 d_Mo_look_105 em_12 rfl ?_
      refine zi_aload_n 1 d_Mo_look_106 rfl ?_
      refine zo_getR 110 zkd_11 46 d_Mo_look_107 eb_10 rfl tw_1275 rfl ?_
      refine zi_iload 0 d_Mo_look_110 rfl ?_
      obtain ⟨v_13, ev_13, h⟩ := zbind h
      refine zo_iald 113 d_Mo_look_112 ev_13 rfl ?_
      refine zi_iload 6 d_Mo_look_113 rfl ?_
      refine zi_icmp_le (tgt := 128) d_Mo_look_115 rfl (fun c_14 => ?_) (fun c_14 => ?_)
      · rw [if_pos c_14] at h
        refine zi_iload 6 d_Mo_look_128 rfl ?_
        refine zi_lo [(0, .ref a0), (1, .int x1), (2, .int x2), (3, .int x3), (4, .int x4), (6, .int x6)] [1, 2, 3, 4, 5, 7] rfl ?_
        exact K_Mo_look_b130 n E S r30 r68 a0 x1 x2 x3 x4 x6 x5 m_12 r M' hr30 hr68 h
      · rw [if_neg c_14] at h
        refine zi_aload_n 1 d_Mo_look_118 rfl ?_
        refine zo_getR 122 zkd_11 46 d_Mo_look_119 eb_10 rfl tw_1275 rfl ?_
        refine zi_iload 0 d_Mo_look_122 rfl ?_
        obtain ⟨v_15, ev_15, h⟩ := zbind h
        refine zo_iald 125 d_Mo_look_124 ev_15 rfl ?_
        refine zi_goto (tgt := 130) d_Mo_look_125 rfl ?_
        refine zi_lo [(0, .ref a0), (1, .int x1), (2, .int x2), (3, .int x3), (4, .int x4), (6, .int x6)] [1, 2, 3, 4, 5, 7] rfl ?_
        exact K_Mo_look_b130 n E S r30 r68 a0 x1 x2 x3 x4 x6 v_15 m_12 r M' hr30 hr68 h
theorem K_Mo_look_b68 (n : Nat) (E : zE) (S : zS) (r30 : Nat × Int32 × Int32 × Int32 × Int32 × zH → Option (Int32 × zH)) (a0 : Nat) (x1 : Int32) (x2 : Int32) (x3 : Int32) (x4 : Int32) (x5 : Int32) (x6 : Int32) (M : zH) (r : Int32) (M' : zH) (hr30 : ∀ (a0 : Nat) (x1 : Int32) (x2 : Int32) (x3 : Int32) (x4 : Int32) (M : zH), r30 (a0, x1, x2, x3, x4, M) = some (r, M') → zG E Y_Mo_look (some (.int r), S, M') 30 [(0, .ref a0), (1, .int x1), (2, .int x2), (3, .int x3), (4, .int x4)] [] S M 0 0) (h : F_Mo_look_b68 n E S r30 (a0, x1, x2, x3, x4, x5, x6, M) = some (r, M')) : zG E Y_Mo_look (some (.int r), S, M') 68 [(0, .ref a0), (1, .int x1), (2, .int x2), (3, .int x3), (4, .int x4), (5, .int x5), (6, .int x6)] [] S M 0 0 := by
  have key : ∀ (k : Nat) (a0 : Nat) (x1 : Int32) (x2 : Int32) (x3 : Int32) (x4 : Int32) (x5 : Int32) (x6 : Int32) (M : zH), zfix (fun r68 s => F_Mo_look_L68 n E S r30 r68 s.1 s.2.1 s.2.2.1 s.2.2.2.1 s.2.2.2.2.1 s.2.2.2.2.2.1 s.2.2.2.2.2.2.1 s.2.2.2.2.2.2.2) k (a0, x1, x2, x3, x4, x5, x6, M) = some (r, M') → zG E Y_Mo_look (some (.int r), S, M') 68 [(0, .ref a0), (1, .int x1), (2, .int x2), (3, .int x3), (4, .int x4), (5, .int x5), (6, .int x6)] [] S M 0 0 := by
    intro k
    induction k with
    | zero => intro a0 x1 x2 x3 x4 x5 x6 M h; cases h
    | succ k ih => intro a0 x1 x2 x3 x4 x5 x6 M h; exact K_Mo_look_L68 n E S r30 _ a0 x1 x2 x3 x4 x5 x6 M r M' hr30 (fun a0 x1 x2 x3 x4 x5 x6 M h => ih a0 x1 x2 x3 x4 x5 x6 M h) h
  exact key n a0 x1 x2 x3 x4 x5 x6 M h
theorem K_Mo_look_L40 (n : Nat) (E : zE) (S : zS) (r30 : Nat × Int32 × Int32 × Int32 × Int32 × zH → Option (Int32 × zH)) (r40 : Nat × Int32 × Int32 × Int32 × Int32 × Int32 × zH → Option (Int32 × zH)) (a0 : Nat) (x1 : Int32) (x2 : Int32) (x3 : Int32) (x4 : Int32) (x5 : Int32) (M : zH) (r : Int32) (M' : zH) (hr30 : ∀ (a0 : Nat) (x1 : Int32) (x2 : Int32) (x3 : Int32) (x4 : Int32) (M : zH), r30 (a0, x1, x2, x3, x4, M) = some (r, M') → zG E Y_Mo_look (some (.int r), S, M') 30 [(0, .ref a0), (1, .int x1), (2, .int x2), (3, .int x3), (4, .int x4)] [] S M 0 0) (hr40 : ∀ (a0 : Nat) (x1 : Int32) (x2 : Int32) (x3 : Int32) (x4 : Int32) (x5 : Int32) (M : zH), r40 (a0, x1, x2, x3, x4, x5, M) = some (r, M') → zG E Y_Mo_look (some (.int r), S, M') 40 [(0, .ref a0), (1, .int x1), (2, .int x2), (3, .int x3), (4, .int x4), (5, .int x5)] [] S M 0 0) (h : F_Mo_look_L40 n E S r30 r40 a0 x1 x2 x3 x4 x5 M = some (r, M')) : zG E Y_Mo_look (some (.int r), S, M') 40 [(0, .ref a0), (1, .int x1), (2, .int x2), (3, .int x3), (4, .int x4), (5, .int x5)] [] S M 0 0 := by
  unfold F_Mo_look_L40 at h
  refine zi_iload 5 d_Mo_look_40 rfl ?_
  refine zi_sipush 400 d_Mo_look_42 rfl ?_
  refine zi_icmp_gt (tgt := 62) d_Mo_look_45 rfl (fun c_16 => ?_) (fun c_16 => ?_)
  · rw [if_pos c_16] at h
    refine zi_iconst 0 d_Mo_look_62 rfl ?_
    refine zi_istore [(5, .int 0), (0, .ref a0), (1, .int x1), (2, .int x2), (3, .int x3), (4, .int x4)] d_Mo_look_63 (by decide) rfl ?_
    refine zi_iconst 0 d_Mo_look_65 rfl ?_
    refine zi_istore [(6, .int 0), (5, .int 0), (0, .ref a0), (1, .int x1), (2, .int x2), (3, .int x3), (4, .int x4)] d_Mo_look_66 (by decide) rfl ?_
    refine zi_lo [(0, .ref a0), (1, .int x1), (2, .int x2), (3, .int x3), (4, .int x4), (5, .int 0), (6, .int 0)] [2, 3, 4, 5, 6, 1, 0] rfl ?_
    exact K_Mo_look_b68 n E S r30 a0 x1 x2 x3 x4 0 0 M r M' hr30 h
  · rw [if_neg c_16] at h
    refine zi_aload_n 0 d_Mo_look_48 rfl ?_
    obtain ⟨b_17, eb_17, h⟩ := zbind h
    refine zo_getR 52 zkd_11 46 d_Mo_look_49 eb_17 rfl tw_1275 rfl ?_
    refine zi_iload 5 d_Mo_look_52 rfl ?_
    refine zi_iconst 0 d_Mo_look_54 rfl ?_
    obtain ⟨m_18, em_18, h⟩ := zbind h
    refine zo_iast 56 d_Mo_look_55 em_18 rfl ?_
    refine zi_iinc 5 (x5 + 1) [(5, .int (x5 + 1)), (0, .ref a0), (1, .int x1), (2, .int x2), (3, .int x3), (4, .int x4)] d_Mo_look_56 rfl rfl (by decide) rfl ?_
    refine zi_goto (tgt := 40) d_Mo_look_59 rfl ?_
    refine zi_lo [(0, .ref a0), (1, .int x1), (2, .int x2), (3, .int x3), (4, .int x4), (5, .int (x5 + 1))] [1, 2, 3, 4, 5, 0] rfl ?_
    exact hr40 a0 x1 x2 x3 x4 (x5 + 1) m_18 h
theorem K_Mo_look_b40 (n : Nat) (E : zE) (S : zS) (r30 : Nat × Int32 × Int32 × Int32 × Int32 × zH → Option (Int32 × zH)) (a0 : Nat) (x1 : Int32) (x2 : Int32) (x3 : Int32) (x4 : Int32) (x5 : Int32) (M : zH) (r : Int32) (M' : zH) (hr30 : ∀ (a0 : Nat) (x1 : Int32) (x2 : Int32) (x3 : Int32) (x4 : Int32) (M : zH), r30 (a0, x1, x2, x3, x4, M) = some (r, M') → zG E Y_Mo_look (some (.int r), S, M') 30 [(0, .ref a0), (1, .int x1), (2, .int x2), (3, .int x3), (4, .int x4)] [] S M 0 0) (h : F_Mo_look_b40 n E S r30 (a0, x1, x2, x3, x4, x5, M) = some (r, M')) : zG E Y_Mo_look (some (.int r), S, M') 40 [(0, .ref a0), (1, .int x1), (2, .int x2), (3, .int x3), (4, .int x4), (5, .int x5)] [] S M 0 0 := by
  have key : ∀ (k : Nat) (a0 : Nat) (x1 : Int32) (x2 : Int32) (x3 : Int32) (x4 : Int32) (x5 : Int32) (M : zH), zfix (fun r40 s => F_Mo_look_L40 n E S r30 r40 s.1 s.2.1 s.2.2.1 s.2.2.2.1 s.2.2.2.2.1 s.2.2.2.2.2.1 s.2.2.2.2.2.2) k (a0, x1, x2, x3, x4, x5, M) = some (r, M') → zG E Y_Mo_look (some (.int r), S, M') 40 [(0, .ref a0), (1, .int x1), (2, .int x2), (3, .int x3), (4, .int x4), (5, .int x5)] [] S M 0 0 := by
    intro k
    induction k with
    | zero => intro a0 x1 x2 x3 x4 x5 M h; cases h
    | succ k ih => intro a0 x1 x2 x3 x4 x5 M h; exact K_Mo_look_L40 n E S r30 _ a0 x1 x2 x3 x4 x5 M r M' hr30 (fun a0 x1 x2 x3 x4 x5 M h => ih a0 x1 x2 x3 x4 x5 M h) h
  exact key n a0 x1 x2 x3 x4 x5 M h
theorem K_Mo_look_b189 (n : Nat) (E : zE) (S : zS) (x3 : Int32) (M : zH) (r : Int32) (M' : zH)  (h : F_Mo_look_b189 n E S x3 M = some (r, M')) : zG E Y_Mo_look (some (.int r), S, M') 189 [(3, .int x3)] [] S M 0 0 := by
  unfold F_Mo_look_b189 at h
  refine zi_iload_n 0 d_Mo_look_189 rfl ?_
  refine zi_goto (tgt := 194) d_Mo_look_190 rfl ?_
  cases h
  exact zo_ret d_Mo_look_194 (Nat.le_of_ble_eq_true rfl) (Nat.le_of_ble_eq_true rfl) rfl
theorem K_Mo_look_L30 (n : Nat) (E : zE) (S : zS) (r30 : Nat × Int32 × Int32 × Int32 × Int32 × zH → Option (Int32 × zH)) (a0 : Nat) (x1 : Int32) (x2 : Int32) (x3 : Int32) (x4 : Int32) (M : zH) (r : Int32) (M' : zH) (hr30 : ∀ (a0 : Nat) (x1 : Int32) (x2 : Int32) (x3 : Int32) (x4 : Int32) (M : zH), r30 (a0, x1, x2, x3, x4, M) = some (r, M') → zG E Y_Mo_look (some (.int r), S, M') 30 [(0, .ref a0), (1, .int x1), (2, .int x2), (3, .int x3), (4, .int x4)] [] S M 0 0) (h : F_Mo_look_L30 n E S r30 a0 x1 x2 x3 x4 M = some (r, M')) : zG E Y_Mo_look (some (.int r), S, M') 30 [(0, .ref a0), (1, .int x1), (2, .int x2), (3, .int x3), (4, .int x4)] [] S M 0 0 := by
  unfold F_Mo_look_L30 at h
  refine zi_iload 4 d_Mo_look_30 rfl ?_
  refine zi_bipush 8 d_Mo_look_32 rfl ?_
  refine zi_icmp_ge (tgt := 180) d_Mo_look_34 rfl (fun c_19 => ?_) (fun c_19 => ?_)
  · rw [if_pos c_19] at h
    refine zi_iload_n 3 d_Mo_look_180 rfl ?_
    refine zi_iconst (-1) d_Mo_look_181 rfl ?_
    refine zi_icmp_eq (tgt := 189) d_Mo_look_182 rfl (fun c_20 => ?_) (fun c_20 => ?_)
    · rw [if_pos c_20] at h
      refine zi_lo [(3, .int x3)] [3] rfl ?_
      exact K_Mo_look_b189 n E S x3 M r M'  h
    · rw [if_neg c_20] at h
      refine zi_iload_n 1 d_Mo_look_185 rfl ?_
      refine zi_if_ne (tgt := 193) d_Mo_look_186 rfl (fun c_21 => ?_) (fun c_21 => ?_)
      · rw [if_neg c_21] at h
        refine zi_iload_n 2 d_Mo_look_193 rfl ?_
        cases h
        exact zo_ret d_Mo_look_194 (Nat.le_of_ble_eq_true rfl) (Nat.le_of_ble_eq_true rfl) rfl
      · rw [if_pos c_21] at h
        refine zi_lo [(3, .int x3)] [3] rfl ?_
        exact K_Mo_look_b189 n E S x3 M r M'  h
  · rw [if_neg c_19] at h
    refine zi_iconst 0 d_Mo_look_37 rfl ?_
    refine zi_istore [(5, .int 0), (0, .ref a0), (1, .int x1), (2, .int x2), (3, .int x3), (4, .int x4)] d_Mo_look_38 (by decide) rfl ?_
    refine zi_lo [(0, .ref a0), (1, .int x1), (2, .int x2), (3, .int x3), (4, .int x4), (5, .int 0)] [1, 2, 3, 4, 5, 0] rfl ?_
    exact K_Mo_look_b40 n E S r30 a0 x1 x2 x3 x4 0 M r M' hr30 h
theorem K_Mo_look_b30 (n : Nat) (E : zE) (S : zS) (a0 : Nat) (x1 : Int32) (x2 : Int32) (x3 : Int32) (x4 : Int32) (M : zH) (r : Int32) (M' : zH)  (h : F_Mo_look_b30 n E S (a0, x1, x2, x3, x4, M) = some (r, M')) : zG E Y_Mo_look (some (.int r), S, M') 30 [(0, .ref a0), (1, .int x1), (2, .int x2), (3, .int x3), (4, .int x4)] [] S M 0 0 := by
  have key : ∀ (k : Nat) (a0 : Nat) (x1 : Int32) (x2 : Int32) (x3 : Int32) (x4 : Int32) (M : zH), zfix (fun r30 s => F_Mo_look_L30 n E S r30 s.1 s.2.1 s.2.2.1 s.2.2.2.1 s.2.2.2.2.1 s.2.2.2.2.2) k (a0, x1, x2, x3, x4, M) = some (r, M') → zG E Y_Mo_look (some (.int r), S, M') 30 [(0, .ref a0), (1, .int x1), (2, .int x2), (3, .int x3), (4, .int x4)] [] S M 0 0 := by
    intro k
    induction k with
    | zero => intro a0 x1 x2 x3 x4 M h; cases h
    | succ k ih => intro a0 x1 x2 x3 x4 M h; exact K_Mo_look_L30 n E S _ a0 x1 x2 x3 x4 M r M'  (fun a0 x1 x2 x3 x4 M h => ih a0 x1 x2 x3 x4 M h) h
  exact key n a0 x1 x2 x3 x4 M h
theorem K_Mo_look (n : Nat) (E : zE) (S : zS) (a0 : Nat) (x1 : Int32) (M : zH) (r : Int32) (M' : zH)  (h : F_Mo_look n E S a0 x1 M = some (r, M')) : zG E Y_Mo_look (some (.int r), S, M') 0 [(0, .ref a0), (1, .int x1)] [] S M 0 0 := by
  unfold F_Mo_look at h
  refine zi_aload_n 0 d_Mo_look_0 rfl ?_
  refine zi_iconst 0 d_Mo_look_1 rfl ?_
  obtain ⟨m_22, em_22, h⟩ := zbind h
  refine zo_putI 5 zkd_11 0 d_Mo_look_2 em_22 rfl rfl rfl tw_1229 rfl ?_
  refine zi_iload_n 1 d_Mo_look_5 rfl ?_
  refine zi_i2l d_Mo_look_6 ?_
  refine zi_lconst 0 d_Mo_look_7 rfl ?_
  refine zi_lconst 1 d_Mo_look_8 rfl ?_
  obtain ⟨q_23, eq_23, h⟩ := zbind h
  refine zo_stat (k' := 0) (n' := 0) 12 [.long x1.toInt64, .long 0, .long 1] [] [.int (bI q_23.1)] (C_Mo_in n E S x1.toInt64 0 1 m_22 q_23.1 q_23.2 eq_23) d_Mo_look_9 tw_1419 tw_1417 tw_1418 tw_13 dd_Mo_in ⟨Nat.le_of_ble_eq_true rfl, Nat.le_of_ble_eq_true rfl, Nat.le_of_ble_eq_true rfl, Nat.le_of_ble_eq_true rfl⟩ (Nat.le_of_ble_eq_true rfl) rfl rfl rfl rfl ?_
  refine zo_ifneB d_Mo_look_12 rfl 15 rfl (fun c_24 => ?_) (fun c_24 => ?_)
  · rw [if_pos c_24] at h
    refine zi_aload_n 0 d_Mo_look_17 rfl ?_
    obtain ⟨u_25, eu_25, h⟩ := zbind h
    obtain ⟨q_26, eq_26, h⟩ := zbind h
    refine zo_virt (k' := 0) (n' := 0) 21 [] [] [] zkd_11 (zck_s eu_25) (C_Mo_layFalls n E S a0 q_23.2 q_26 eq_26) d_Mo_look_18 tw_1780 tw_1777 tw_1779 ts_91 tw_13 dd_Mo_layFalls ⟨Nat.le_of_ble_eq_true rfl, Nat.le_of_ble_eq_true rfl, Nat.le_of_ble_eq_true rfl, Nat.le_of_ble_eq_true rfl⟩ (Nat.le_of_ble_eq_true rfl) rfl rfl rfl rfl ?_
    refine zi_ldcw d_Mo_look_21 tw_1799 ?_
    refine zi_istore_n [(2, .int 100000000), (0, .ref a0), (1, .int x1)] d_Mo_look_24 (by decide) rfl ?_
    refine zi_iconst (-1) d_Mo_look_25 rfl ?_
    refine zi_istore_n [(3, .int (-1)), (2, .int 100000000), (0, .ref a0), (1, .int x1)] d_Mo_look_26 (by decide) rfl ?_
    refine zi_iconst 0 d_Mo_look_27 rfl ?_
    refine zi_istore [(4, .int 0), (3, .int (-1)), (2, .int 100000000), (0, .ref a0), (1, .int x1)] d_Mo_look_28 (by decide) rfl ?_
    refine zi_lo [(0, .ref a0), (1, .int x1), (2, .int 100000000), (3, .int (-1)), (4, .int 0)] [3, 4, 2, 1, 0] rfl ?_
    exact K_Mo_look_b30 n E S a0 x1 100000000 (-1) 0 q_26 r M'  h
  · rw [if_neg c_24] at h
    refine zi_iconst (-1) d_Mo_look_15 rfl ?_
    cases h
    exact zo_ret d_Mo_look_16 (Nat.le_of_ble_eq_true rfl) (Nat.le_of_ble_eq_true rfl) rfl
theorem C_Mo_look (n : Nat) (E : zE) (S : zS) (a0 : Nat) (x1 : Int32) (M : zH) (r : Int32) (M' : zH) (h : F_Mo_look n E S a0 x1 M = some (r, M')) : zC E Y_Mo_look [.ref a0, .int x1] S M (some (.int r), S, M') :=
  zC.of (Or.inl (show plainName "NightColanderModel" = true by decide)) (Nat.le_of_ble_eq_true rfl) (trivial) (K_Mo_look n E S a0 x1 M r M' h)
