/-! METHODS (printed by gen/build.py): Pa_place NC_placed Ni_addSeen NC_seen NC_forget Pa_asDecimal Ju_runsAbove Pa_findShares Pa_threadsByThree Pa_threadsBy Pa_fitsSeen Pa_settingAt NC_settings -/
theorem d_Pa_place_0 : decode (yB Y_Pa_place) 0 = .ok (.aload_n 0, 1) := by decide +kernel
theorem d_Pa_place_1 : decode (yB Y_Pa_place) 1 = .ok (.aload_n 1, 1) := by decide +kernel
theorem d_Pa_place_2 : decode (yB Y_Pa_place) 2 = .ok (.iload_n 2, 1) := by decide +kernel
theorem d_Pa_place_3 : decode (yB Y_Pa_place) 3 = .ok (.invokevirtual 73, 3) := by decide +kernel
theorem d_Pa_place_6 : decode (yB Y_Pa_place) 6 = .ok (.iconst 0, 1) := by decide +kernel
theorem d_Pa_place_7 : decode (yB Y_Pa_place) 7 = .ok (.istore_n 3, 1) := by decide +kernel
theorem d_Pa_place_8 : decode (yB Y_Pa_place) 8 = .ok (.iload_n 3, 1) := by decide +kernel
theorem d_Pa_place_9 : decode (yB Y_Pa_place) 9 = .ok (.aload_n 1, 1) := by decide +kernel
theorem d_Pa_place_10 : decode (yB Y_Pa_place) 10 = .ok (.getfield 77, 3) := by decide +kernel
theorem d_Pa_place_13 : decode (yB Y_Pa_place) 13 = .ok (.if_icmp .ge 68, 3) := by decide +kernel
theorem d_Pa_place_16 : decode (yB Y_Pa_place) 16 = .ok (.iconst 0, 1) := by decide +kernel
theorem d_Pa_place_17 : decode (yB Y_Pa_place) 17 = .ok (.istore 4, 2) := by decide +kernel
theorem d_Pa_place_19 : decode (yB Y_Pa_place) 19 = .ok (.iload 4, 2) := by decide +kernel
theorem d_Pa_place_21 : decode (yB Y_Pa_place) 21 = .ok (.bipush 8, 2) := by decide +kernel
theorem d_Pa_place_23 : decode (yB Y_Pa_place) 23 = .ok (.if_icmp .ge 52, 3) := by decide +kernel
theorem d_Pa_place_26 : decode (yB Y_Pa_place) 26 = .ok (.aload_n 0, 1) := by decide +kernel
theorem d_Pa_place_27 : decode (yB Y_Pa_place) 27 = .ok (.getfield 45, 3) := by decide +kernel
theorem d_Pa_place_30 : decode (yB Y_Pa_place) 30 = .ok (.aload_n 1, 1) := by decide +kernel
theorem d_Pa_place_31 : decode (yB Y_Pa_place) 31 = .ok (.iload_n 3, 1) := by decide +kernel
theorem d_Pa_place_32 : decode (yB Y_Pa_place) 32 = .ok (.iload 4, 2) := by decide +kernel
theorem d_Pa_place_34 : decode (yB Y_Pa_place) 34 = .ok (.invokevirtual 80, 3) := by decide +kernel
theorem d_Pa_place_37 : decode (yB Y_Pa_place) 37 = .ok (.istore 5, 2) := by decide +kernel
theorem d_Pa_place_39 : decode (yB Y_Pa_place) 39 = .ok (.aload_n 0, 1) := by decide +kernel
theorem d_Pa_place_40 : decode (yB Y_Pa_place) 40 = .ok (.getfield 25, 3) := by decide +kernel
theorem d_Pa_place_43 : decode (yB Y_Pa_place) 43 = .ok (.iload_n 3, 1) := by decide +kernel
theorem d_Pa_place_44 : decode (yB Y_Pa_place) 44 = .ok (.bipush 8, 2) := by decide +kernel
theorem d_Pa_place_46 : decode (yB Y_Pa_place) 46 = .ok (.imul, 1) := by decide +kernel
theorem d_Pa_place_47 : decode (yB Y_Pa_place) 47 = .ok (.iload 4, 2) := by decide +kernel
theorem d_Pa_place_49 : decode (yB Y_Pa_place) 49 = .ok (.iadd, 1) := by decide +kernel
theorem d_Pa_place_50 : decode (yB Y_Pa_place) 50 = .ok (.iload 5, 2) := by decide +kernel
theorem d_Pa_place_52 : decode (yB Y_Pa_place) 52 = .ok (.ifCond .eq 7, 3) := by decide +kernel
theorem d_Pa_place_55 : decode (yB Y_Pa_place) 55 = .ok (.iconst (-1), 1) := by decide +kernel
theorem d_Pa_place_56 : decode (yB Y_Pa_place) 56 = .ok (.goto 12, 3) := by decide +kernel
theorem d_Pa_place_59 : decode (yB Y_Pa_place) 59 = .ok (.aload_n 0, 1) := by decide +kernel
theorem d_Pa_place_60 : decode (yB Y_Pa_place) 60 = .ok (.aload_n 1, 1) := by decide +kernel
theorem d_Pa_place_61 : decode (yB Y_Pa_place) 61 = .ok (.iload_n 3, 1) := by decide +kernel
theorem d_Pa_place_62 : decode (yB Y_Pa_place) 62 = .ok (.iload 4, 2) := by decide +kernel
theorem d_Pa_place_64 : decode (yB Y_Pa_place) 64 = .ok (.iload_n 2, 1) := by decide +kernel
theorem d_Pa_place_65 : decode (yB Y_Pa_place) 65 = .ok (.invokevirtual 84, 3) := by decide +kernel
theorem d_Pa_place_68 : decode (yB Y_Pa_place) 68 = .ok (.iastore, 1) := by decide +kernel
theorem d_Pa_place_69 : decode (yB Y_Pa_place) 69 = .ok (.iinc 4 1, 3) := by decide +kernel
theorem d_Pa_place_72 : decode (yB Y_Pa_place) 72 = .ok (.goto (-53), 3) := by decide +kernel
theorem d_Pa_place_75 : decode (yB Y_Pa_place) 75 = .ok (.iinc 3 1, 3) := by decide +kernel
theorem d_Pa_place_78 : decode (yB Y_Pa_place) 78 = .ok (.goto (-70), 3) := by decide +kernel
theorem d_Pa_place_81 : decode (yB Y_Pa_place) 81 = .ok (.aload_n 0, 1) := by decide +kernel
theorem d_Pa_place_82 : decode (yB Y_Pa_place) 82 = .ok (.iconst (-1), 1) := by decide +kernel
theorem d_Pa_place_83 : decode (yB Y_Pa_place) 83 = .ok (.putfield 38, 3) := by decide +kernel
theorem d_Pa_place_86 : decode (yB Y_Pa_place) 86 = .ok (.iconst 1, 1) := by decide +kernel
theorem d_Pa_place_87 : decode (yB Y_Pa_place) 87 = .ok (.iconst 3, 1) := by decide +kernel
theorem d_Pa_place_88 : decode (yB Y_Pa_place) 88 = .ok (.aload_n 1, 1) := by decide +kernel
theorem d_Pa_place_89 : decode (yB Y_Pa_place) 89 = .ok (.getfield 77, 3) := by decide +kernel
theorem d_Pa_place_92 : decode (yB Y_Pa_place) 92 = .ok (.imul, 1) := by decide +kernel
theorem d_Pa_place_93 : decode (yB Y_Pa_place) 93 = .ok (.ishl, 1) := by decide +kernel
theorem d_Pa_place_94 : decode (yB Y_Pa_place) 94 = .ok (.istore_n 3, 1) := by decide +kernel
theorem d_Pa_place_95 : decode (yB Y_Pa_place) 95 = .ok (.iconst 0, 1) := by decide +kernel
theorem d_Pa_place_96 : decode (yB Y_Pa_place) 96 = .ok (.istore 4, 2) := by decide +kernel
theorem d_Pa_place_98 : decode (yB Y_Pa_place) 98 = .ok (.iload 4, 2) := by decide +kernel
theorem d_Pa_place_100 : decode (yB Y_Pa_place) 100 = .ok (.iload_n 3, 1) := by decide +kernel
theorem d_Pa_place_101 : decode (yB Y_Pa_place) 101 = .ok (.if_icmp .ge 42, 3) := by decide +kernel
theorem d_Pa_place_104 : decode (yB Y_Pa_place) 104 = .ok (.aload_n 0, 1) := by decide +kernel
theorem d_Pa_place_105 : decode (yB Y_Pa_place) 105 = .ok (.aload_n 1, 1) := by decide +kernel
theorem d_Pa_place_106 : decode (yB Y_Pa_place) 106 = .ok (.getfield 77, 3) := by decide +kernel
theorem d_Pa_place_109 : decode (yB Y_Pa_place) 109 = .ok (.iload 4, 2) := by decide +kernel
theorem d_Pa_place_111 : decode (yB Y_Pa_place) 111 = .ok (.invokevirtual 88, 3) := by decide +kernel
theorem d_Pa_place_114 : decode (yB Y_Pa_place) 114 = .ok (.istore 5, 2) := by decide +kernel
theorem d_Pa_place_116 : decode (yB Y_Pa_place) 116 = .ok (.iload 5, 2) := by decide +kernel
theorem d_Pa_place_118 : decode (yB Y_Pa_place) 118 = .ok (.aload_n 0, 1) := by decide +kernel
theorem d_Pa_place_119 : decode (yB Y_Pa_place) 119 = .ok (.getfield 38, 3) := by decide +kernel
theorem d_Pa_place_122 : decode (yB Y_Pa_place) 122 = .ok (.if_icmp .le 15, 3) := by decide +kernel
theorem d_Pa_place_125 : decode (yB Y_Pa_place) 125 = .ok (.aload_n 0, 1) := by decide +kernel
theorem d_Pa_place_126 : decode (yB Y_Pa_place) 126 = .ok (.iload 5, 2) := by decide +kernel
theorem d_Pa_place_128 : decode (yB Y_Pa_place) 128 = .ok (.putfield 38, 3) := by decide +kernel
theorem d_Pa_place_131 : decode (yB Y_Pa_place) 131 = .ok (.aload_n 0, 1) := by decide +kernel
theorem d_Pa_place_132 : decode (yB Y_Pa_place) 132 = .ok (.iload 4, 2) := by decide +kernel
theorem d_Pa_place_134 : decode (yB Y_Pa_place) 134 = .ok (.putfield 42, 3) := by decide +kernel
theorem d_Pa_place_137 : decode (yB Y_Pa_place) 137 = .ok (.iinc 4 1, 3) := by decide +kernel
theorem d_Pa_place_140 : decode (yB Y_Pa_place) 140 = .ok (.goto (-42), 3) := by decide +kernel
theorem d_Pa_place_143 : decode (yB Y_Pa_place) 143 = .ok (.aload_n 0, 1) := by decide +kernel
theorem d_Pa_place_144 : decode (yB Y_Pa_place) 144 = .ok (.getfield 38, 3) := by decide +kernel
theorem d_Pa_place_147 : decode (yB Y_Pa_place) 147 = .ok (.iconst (-1), 1) := by decide +kernel
theorem d_Pa_place_148 : decode (yB Y_Pa_place) 148 = .ok (.if_icmp .eq 7, 3) := by decide +kernel
theorem d_Pa_place_151 : decode (yB Y_Pa_place) 151 = .ok (.iconst 1, 1) := by decide +kernel
theorem d_Pa_place_152 : decode (yB Y_Pa_place) 152 = .ok (.goto 4, 3) := by decide +kernel
theorem d_Pa_place_155 : decode (yB Y_Pa_place) 155 = .ok (.iconst 0, 1) := by decide +kernel
theorem d_Pa_place_156 : decode (yB Y_Pa_place) 156 = .ok (.ireturn, 1) := by decide +kernel
def F_Pa_place_b68 (n : Nat) (E : zE) (S : zS) (r8 : Nat × Nat × Int32 × Int32 × zH → Option (Bool × zH)) (r19 : Nat × Nat × Int32 × Int32 × Int32 × zH → Option (Bool × zH)) (a0 : Nat) (a1 : Nat) (x2 : Int32) (x3 : Int32) (x4 : Int32) (s0 : Int32) (s1 : Int32) (u2 : Nat) (M : zH) : Option (Bool × zH) :=
  (zstI S M u2 s1 s0).bind fun m_1 =>
  r19 (a0, a1, x2, x3, x4 + 1, m_1)
def F_Pa_place_L19 (n : Nat) (E : zE) (S : zS) (r8 : Nat × Nat × Int32 × Int32 × zH → Option (Bool × zH)) (r19 : Nat × Nat × Int32 × Int32 × Int32 × zH → Option (Bool × zH)) (a0 : Nat) (a1 : Nat) (x2 : Int32) (x3 : Int32) (x4 : Int32) (M : zH) : Option (Bool × zH) :=
  if 8 ≤ x4 then
    r8 (a0, a1, x2, x3 + 1, M)
  else
    (zgR S a0 4 0).bind fun b_3 =>
    (zck S b_3 1).bind fun u_4 =>
    (F_Ju_isBarred n E S b_3 a1 x3 x4 M).bind fun q_5 =>
    (zgR S a0 4 4).bind fun b_6 =>
    if (bI q_5.1) = 0 then
      (F_Pa_catchOn n E S a0 a1 x3 x4 x2 q_5.2).bind fun q_8 =>
      F_Pa_place_b68 n E S r8 r19 a0 a1 x2 x3 x4 q_8.1 ((x3 * 8) + x4) b_6 q_8.2
    else
      F_Pa_place_b68 n E S r8 r19 a0 a1 x2 x3 x4 (-1) ((x3 * 8) + x4) b_6 q_5.2
def F_Pa_place_b19 (n : Nat) (E : zE) (S : zS) (r8 : Nat × Nat × Int32 × Int32 × zH → Option (Bool × zH)) : Nat × Nat × Int32 × Int32 × Int32 × zH → Option (Bool × zH) := zfix (fun r19 s => F_Pa_place_L19 n E S r8 r19 s.1 s.2.1 s.2.2.1 s.2.2.2.1 s.2.2.2.2.1 s.2.2.2.2.2) n
def F_Pa_place_b137 (n : Nat) (E : zE) (S : zS) (r98 : Nat × Nat × Int32 × Int32 × zH → Option (Bool × zH)) (a0 : Nat) (a1 : Nat) (x3 : Int32) (x4 : Int32) (M : zH) : Option (Bool × zH) :=
  r98 (a0, a1, x3, x4 + 1, M)
def F_Pa_place_L98 (n : Nat) (E : zE) (S : zS) (r98 : Nat × Nat × Int32 × Int32 × zH → Option (Bool × zH)) (a0 : Nat) (a1 : Nat) (x3 : Int32) (x4 : Int32) (M : zH) : Option (Bool × zH) :=
  if x3 ≤ x4 then
    (zgI S M a0 4 8).bind fun v_10 =>
    if v_10 = (-1) then
      some (false, M)
    else
      some (true, M)
  else
    (zgI S M a1 3 11).bind fun v_12 =>
    (zck S a0 4).bind fun u_13 =>
    (F_Pa_caughtByRow n E S a0 v_12 x4 M).bind fun q_14 =>
    (zgI S q_14.2 a0 4 8).bind fun v_15 =>
    if q_14.1 ≤ v_15 then
      F_Pa_place_b137 n E S r98 a0 a1 x3 x4 q_14.2
    else
      (zpI S q_14.2 a0 4 8 q_14.1).bind fun m_17 =>
      (zpI S m_17 a0 4 9 x4).bind fun m_18 =>
      F_Pa_place_b137 n E S r98 a0 a1 x3 x4 m_18
def F_Pa_place_b98 (n : Nat) (E : zE) (S : zS) : Nat × Nat × Int32 × Int32 × zH → Option (Bool × zH) := zfix (fun r98 s => F_Pa_place_L98 n E S r98 s.1 s.2.1 s.2.2.1 s.2.2.2.1 s.2.2.2.2) n
def F_Pa_place_L8 (n : Nat) (E : zE) (S : zS) (r8 : Nat × Nat × Int32 × Int32 × zH → Option (Bool × zH)) (a0 : Nat) (a1 : Nat) (x2 : Int32) (x3 : Int32) (M : zH) : Option (Bool × zH) :=
  (zgI S M a1 3 11).bind fun v_19 =>
  if v_19 ≤ x3 then
    (zpI S M a0 4 8 (-1)).bind fun m_21 =>
    (zgI S m_21 a1 3 11).bind fun v_22 =>
    F_Pa_place_b98 n E S (a0, a1, (1 : Int32) <<< ((3 * v_22) &&& (31 : Int32)), 0, m_21)
  else
    F_Pa_place_b19 n E S r8 (a0, a1, x2, x3, 0, M)
def F_Pa_place_b8 (n : Nat) (E : zE) (S : zS) : Nat × Nat × Int32 × Int32 × zH → Option (Bool × zH) := zfix (fun r8 s => F_Pa_place_L8 n E S r8 s.1 s.2.1 s.2.2.1 s.2.2.2.1 s.2.2.2.2) n
def F_Pa_place (n : Nat) (E : zE) (S : zS) (a0 : Nat) (a1 : Nat) (x2 : Int32) (M : zH) : Option (Bool × zH) :=
  (zck S a0 4).bind fun u_23 =>
  (F_Pa_findFalls n E S a0 a1 x2 M).bind fun q_24 =>
  F_Pa_place_b8 n E S (a0, a1, x2, 0, q_24)
theorem K_Pa_place_b68 (n : Nat) (E : zE) (S : zS) (r8 : Nat × Nat × Int32 × Int32 × zH → Option (Bool × zH)) (r19 : Nat × Nat × Int32 × Int32 × Int32 × zH → Option (Bool × zH)) (a0 : Nat) (a1 : Nat) (x2 : Int32) (x3 : Int32) (x4 : Int32) (s0 : Int32) (s1 : Int32) (u2 : Nat) (M : zH) (r : Bool) (M' : zH) (hr8 : ∀ (a0 : Nat) (a1 : Nat) (x2 : Int32) (x3 : Int32) (M : zH), r8 (a0, a1, x2, x3, M) = some (r, M') → zG E Y_Pa_place (some (.int (bI r)), S, M') 8 [(0, .ref a0), (1, .ref a1), (2, .int x2), (3, .int x3)] [] S M 0 0) (hr19 : ∀ (a0 : Nat) (a1 : Nat) (x2 : Int32) (x3 : Int32) (x4 : Int32) (M : zH), r19 (a0, a1, x2, x3, x4, M) = some (r, M') → zG E Y_Pa_place (some (.int (bI r)), S, M') 19 [(0, .ref a0), (1, .ref a1), (2, .int x2), (3, .int x3), (4, .int x4)] [] S M 0 0) (h : F_Pa_place_b68 n E S r8 r19 a0 a1 x2 x3 x4 s0 s1 u2 M = some (r, M')) : zG E Y_Pa_place (some (.int (bI r)), S, M') 68 [(0, .ref a0), (1, .ref a1), (2, .int x2), (3, .int x3), (4, .int x4)] [.int s0, .int s1, .ref u2] S M 0 0 := by
  unfold F_Pa_place_b68 at h
  obtain ⟨m_1, em_1, h⟩ := zbind h
  refine zo_iast 69 d_Pa_place_68 em_1 rfl ?_
  refine zi_iinc 4 (x4 + 1) [(4, .int (x4 + 1)), (0, .ref a0), (1, .ref a1), (2, .int x2), (3, .int x3)] d_Pa_place_69 rfl rfl (by decide) rfl ?_
  refine zi_goto (tgt := 19) d_Pa_place_72 rfl ?_
  refine zi_lo [(0, .ref a0), (1, .ref a1), (2, .int x2), (3, .int x3), (4, .int (x4 + 1))] [1, 2, 3, 4, 0] rfl ?_
  exact hr19 a0 a1 x2 x3 (x4 + 1) m_1 h
theorem K_Pa_place_L19 (n : Nat) (E : zE) (S : zS) (r8 : Nat × Nat × Int32 × Int32 × zH → Option (Bool × zH)) (r19 : Nat × Nat × Int32 × Int32 × Int32 × zH → Option (Bool × zH)) (a0 : Nat) (a1 : Nat) (x2 : Int32) (x3 : Int32) (x4 : Int32) (M : zH) (r : Bool) (M' : zH) (hr8 : ∀ (a0 : Nat) (a1 : Nat) (x2 : Int32) (x3 : Int32) (M : zH), r8 (a0, a1, x2, x3, M) = some (r, M') → zG E Y_Pa_place (some (.int (bI r)), S, M') 8 [(0, .ref a0), (1, .ref a1), (2, .int x2), (3, .int x3)] [] S M 0 0) (hr19 : ∀ (a0 : Nat) (a1 : Nat) (x2 : Int32) (x3 : Int32) (x4 : Int32) (M : zH), r19 (a0, a1, x2, x3, x4, M) = some (r, M') → zG E Y_Pa_place (some (.int (bI r)), S, M') 19 [(0, .ref a0), (1, .ref a1), (2, .int x2), (3, .int x3), (4, .int x4)] [] S M 0 0) (h : F_Pa_place_L19 n E S r8 r19 a0 a1 x2 x3 x4 M = some (r, M')) : zG E Y_Pa_place (some (.int (bI r)), S, M') 19 [(0, .ref a0), (1, .ref a1), (2, .int x2), (3, .int x3), (4, .int x4)] [] S M 0 0 := by
  unfold F_Pa_place_L19 at h
  refine zi_iload 4 d_Pa_place_19 rfl ?_
  refine zi_bipush 8 d_Pa_place_21 rfl ?_
  refine zi_icmp_ge (tgt := 75) d_Pa_place_23 rfl (fun c_2 => ?_) (fun c_2 => ?_)
  · rw [if_pos c_2] at h
    refine zi_iinc 3 (x3 + 1) [(3, .int (x3 + 1)), (0, .ref a0), (1, .ref a1), (2, .int x2), (4, .int x4)] d_Pa_place_75 rfl rfl (by decide) rfl ?_
    refine zi_goto (tgt := 8) d_Pa_place_78 rfl ?_
    refine zi_lo [(0, .ref a0), (1, .ref a1), (2, .int x2), (3, .int (x3 + 1))] [1, 2, 3, 0] rfl ?_
    exact hr8 a0 a1 x2 (x3 + 1) M h
  · rw [if_neg c_2] at h
    refine zi_aload_n 0 d_Pa_place_26 rfl ?_
    obtain ⟨b_3, eb_3, h⟩ := zbind h
    refine zo_getR 30 zkd_4 0 d_Pa_place_27 eb_3 rfl tw_298 rfl ?_
    refine zi_aload_n 1 d_Pa_place_30 rfl ?_
    refine zi_iload_n 3 d_Pa_place_31 rfl ?_
    refine zi_iload 4 d_Pa_place_32 rfl ?_
    obtain ⟨u_4, eu_4, h⟩ := zbind h
    obtain ⟨q_5, eq_5, h⟩ := zbind h
    refine zo_virt (k' := 0) (n' := 0) 37 [.ref a1, .int x3, .int x4] [] [.int (bI q_5.1)] zkd_1 (zck_s eu_4) (C_Ju_isBarred n E S b_3 a1 x3 x4 M q_5.1 q_5.2 eq_5) d_Pa_place_34 tw_500 tw_997 tw_498 tw_499 tw_8 dd_Ju_isBarred ⟨Nat.le_of_ble_eq_true rfl, Nat.le_of_ble_eq_true rfl, Nat.le_of_ble_eq_true rfl, Nat.le_of_ble_eq_true rfl⟩ (Nat.le_of_ble_eq_true rfl) rfl rfl rfl rfl ?_
    refine zi_istore [(5, .int (bI q_5.1)), (0, .ref a0), (1, .ref a1), (2, .int x2), (3, .int x3), (4, .int x4)] d_Pa_place_37 (by decide) rfl ?_
    refine zi_aload_n 1 d_Pa_place_39 rfl ?_
    obtain ⟨b_6, eb_6, h⟩ := zbind h
    refine zo_getR 43 zkd_4 4 d_Pa_place_40 eb_6 rfl tw_302 rfl ?_
    refine zi_iload_n 4 d_Pa_place_43 rfl ?_
    refine zi_bipush 8 d_Pa_place_44 rfl ?_
    refine zi_imul d_Pa_place_46 ?_
    refine zi_iload 5 d_Pa_place_47 rfl ?_
    refine zi_iadd d_Pa_place_49 ?_
    refine zi_iload 0 d_Pa_place_50 rfl ?_
    refine zi_if_eq (tgt := 59) d_Pa_place_52 rfl (fun c_7 => ?_) (fun c_7 => ?_)
    · rw [if_pos c_7] at h
      refine zi_aload_n 1 d_Pa_place_59 rfl ?_
      refine zi_aload_n 2 d_Pa_place_60 rfl ?_
      refine zi_iload_n 4 d_Pa_place_61 rfl ?_
      refine zi_iload 5 d_Pa_place_62 rfl ?_
      refine zi_iload_n 3 d_Pa_place_64 rfl ?_
      obtain ⟨q_8, eq_8, h⟩ := zbind h
      refine zo_virt (k' := 0) (n' := 0) 68 [.ref a1, .int x3, .int x4, .int x2] [.int ((x3 * 8) + x4), .ref b_6] [.int q_8.1, .int ((x3 * 8) + x4), .ref b_6] zkd_4 (zgR_s eb_3).1 (C_Pa_catchOn n E S a0 a1 x3 x4 x2 q_5.2 q_8.1 q_8.2 eq_8) d_Pa_place_65 tw_1001 tw_998 tw_1000 ts_26 tw_12 dd_Pa_catchOn ⟨Nat.le_of_ble_eq_true rfl, Nat.le_of_ble_eq_true rfl, Nat.le_of_ble_eq_true rfl, Nat.le_of_ble_eq_true rfl⟩ (Nat.le_of_ble_eq_true rfl) rfl rfl rfl rfl ?_
      refine zi_lo [(0, .ref a0), (1, .ref a1), (2, .int x2), (3, .int x3), (4, .int x4)] [1, 2, 3, 4, 5] rfl ?_
      exact K_Pa_place_b68 n E S r8 r19 a0 a1 x2 x3 x4 q_8.1 ((x3 * 8) + x4) b_6 q_8.2 r M' hr8 hr19 h
    · rw [if_neg c_7] at h
      refine zi_iconst (-1) d_Pa_place_55 rfl ?_
      refine zi_goto (tgt := 68) d_Pa_place_56 rfl ?_
      refine zi_lo [(0, .ref a0), (1, .ref a1), (2, .int x2), (3, .int x3), (4, .int x4)] [1, 2, 3, 4, 5] rfl ?_
      exact K_Pa_place_b68 n E S r8 r19 a0 a1 x2 x3 x4 (-1) ((x3 * 8) + x4) b_6 q_5.2 r M' hr8 hr19 h
theorem K_Pa_place_b19 (n : Nat) (E : zE) (S : zS) (r8 : Nat × Nat × Int32 × Int32 × zH → Option (Bool × zH)) (a0 : Nat) (a1 : Nat) (x2 : Int32) (x3 : Int32) (x4 : Int32) (M : zH) (r : Bool) (M' : zH) (hr8 : ∀ (a0 : Nat) (a1 : Nat) (x2 : Int32) (x3 : Int32) (M : zH), r8 (a0, a1, x2, x3, M) = some (r, M') → zG E Y_Pa_place (some (.int (bI r)), S, M') 8 [(0, .ref a0), (1, .ref a1), (2, .int x2), (3, .int x3)] [] S M 0 0) (h : F_Pa_place_b19 n E S r8 (a0, a1, x2, x3, x4, M) = some (r, M')) : zG E Y_Pa_place (some (.int (bI r)), S, M') 19 [(0, .ref a0), (1, .ref a1), (2, .int x2), (3, .int x3), (4, .int x4)] [] S M 0 0 := by
  have key : ∀ (k : Nat) (a0 : Nat) (a1 : Nat) (x2 : Int32) (x3 : Int32) (x4 : Int32) (M : zH), zfix (fun r19 s => F_Pa_place_L19 n E S r8 r19 s.1 s.2.1 s.2.2.1 s.2.2.2.1 s.2.2.2.2.1 s.2.2.2.2.2) k (a0, a1, x2, x3, x4, M) = some (r, M') → zG E Y_Pa_place (some (.int (bI r)), S, M') 19 [(0, .ref a0), (1, .ref a1), (2, .int x2), (3, .int x3), (4, .int x4)] [] S M 0 0 := by
    intro k
    induction k with
    | zero => intro a0 a1 x2 x3 x4 M h; cases h
    | succ k ih => intro a0 a1 x2 x3 x4 M h; exact K_Pa_place_L19 n E S r8 _ a0 a1 x2 x3 x4 M r M' hr8 (fun a0 a1 x2 x3 x4 M h => ih a0 a1 x2 x3 x4 M h) h
  exact key n a0 a1 x2 x3 x4 M h
theorem K_Pa_place_b137 (n : Nat) (E : zE) (S : zS) (r98 : Nat × Nat × Int32 × Int32 × zH → Option (Bool × zH)) (a0 : Nat) (a1 : Nat) (x3 : Int32) (x4 : Int32) (M : zH) (r : Bool) (M' : zH) (hr98 : ∀ (a0 : Nat) (a1 : Nat) (x3 : Int32) (x4 : Int32) (M : zH), r98 (a0, a1, x3, x4, M) = some (r, M') → zG E Y_Pa_place (some (.int (bI r)), S, M') 98 [(0, .ref a0), (1, .ref a1), (3, .int x3), (4, .int x4)] [] S M 0 0) (h : F_Pa_place_b137 n E S r98 a0 a1 x3 x4 M = some (r, M')) : zG E Y_Pa_place (some (.int (bI r)), S, M') 137 [(0, .ref a0), (1, .ref a1), (3, .int x3), (4, .int x4)] [] S M 0 0 := by
  unfold F_Pa_place_b137 at h
  refine zi_iinc 3 (x4 + 1) [(4, .int (x4 + 1)), (0, .ref a0), (1, .ref a1), (3, .int x3)] d_Pa_place_137 rfl rfl (by decide) rfl ?_
  refine zi_goto (tgt := 98) d_Pa_place_140 rfl ?_
  refine zi_lo [(0, .ref a0), (1, .ref a1), (3, .int x3), (4, .int (x4 + 1))] [1, 2, 3, 0] rfl ?_
  exact hr98 a0 a1 x3 (x4 + 1) M h
theorem K_Pa_place_L98 (n : Nat) (E : zE) (S : zS) (r98 : Nat × Nat × Int32 × Int32 × zH → Option (Bool × zH)) (a0 : Nat) (a1 : Nat) (x3 : Int32) (x4 : Int32) (M : zH) (r : Bool) (M' : zH) (hr98 : ∀ (a0 : Nat) (a1 : Nat) (x3 : Int32) (x4 : Int32) (M : zH), r98 (a0, a1, x3, x4, M) = some (r, M') → zG E Y_Pa_place (some (.int (bI r)), S, M') 98 [(0, .ref a0), (1, .ref a1), (3, .int x3), (4, .int x4)] [] S M 0 0) (h : F_Pa_place_L98 n E S r98 a0 a1 x3 x4 M = some (r, M')) : zG E Y_Pa_place (some (.int (bI r)), S, M') 98 [(0, .ref a0), (1, .ref a1), (3, .int x3), (4, .int x4)] [] S M 0 0 := by
  unfold F_Pa_place_L98 at h
  refine zi_iload 3 d_Pa_place_98 rfl ?_
  refine zi_iload_n 2 d_Pa_place_100 rfl ?_
  refine zi_icmp_ge (tgt := 143) d_Pa_place_101 rfl (fun c_9 => ?_) (fun c_9 => ?_)
  · rw [if_pos c_9] at h
    refine zi_aload_n 0 d_Pa_place_143 rfl ?_
    obtain ⟨v_10, ev_10, h⟩ := zbind h
    refine zo_getI 147 zkd_4 8 d_Pa_place_144 ev_10 rfl tw_306 rfl ?_
    refine zi_iconst (-1) d_Pa_place_147 rfl ?_
    refine zi_icmp_eq (tgt := 155) d_Pa_place_148 rfl (fun c_11 => ?_) (fun c_11 => ?_)
    · rw [if_pos c_11] at h
      refine zi_iconst 0 d_Pa_place_155 rfl ?_
      cases h
      exact zo_retB d_Pa_place_156 (Nat.le_of_ble_eq_true rfl) (Nat.le_of_ble_eq_true rfl) rfl
    · rw [if_neg c_11] at h
      refine zi_iconst 1 d_Pa_place_151 rfl ?_
      refine zi_goto (tgt := 156) d_Pa_place_152 rfl ?_
      cases h
      exact zo_retB d_Pa_place_156 (Nat.le_of_ble_eq_true rfl) (Nat.le_of_ble_eq_true rfl) rfl
  · rw [if_neg c_9] at h
    refine zi_aload_n 0 d_Pa_place_104 rfl ?_
    refine zi_aload_n 1 d_Pa_place_105 rfl ?_
    obtain ⟨v_12, ev_12, h⟩ := zbind h
    refine zo_getI 109 zkd_3 11 d_Pa_place_106 ev_12 rfl tw_88 rfl ?_
    refine zi_iload 3 d_Pa_place_109 rfl ?_
    obtain ⟨u_13, eu_13, h⟩ := zbind h
    obtain ⟨q_14, eq_14, h⟩ := zbind h
    refine zo_virt (k' := 0) (n' := 0) 114 [.int v_12, .int x4] [] [.int q_14.1] zkd_4 (zck_s eu_13) (C_Pa_caughtByRow n E S a0 v_12 x4 M q_14.1 q_14.2 eq_14) d_Pa_place_111 tw_1008 tw_1005 tw_1007 ts_27 tw_12 dd_Pa_caughtByRow ⟨Nat.le_of_ble_eq_true rfl, Nat.le_of_ble_eq_true rfl, Nat.le_of_ble_eq_true rfl, Nat.le_of_ble_eq_true rfl⟩ (Nat.le_of_ble_eq_true rfl) rfl rfl rfl rfl ?_
    refine zi_istore [(5, .int q_14.1), (0, .ref a0), (1, .ref a1), (3, .int x3), (4, .int x4)] d_Pa_place_114 (by decide) rfl ?_
    refine zi_iload 0 d_Pa_place_116 rfl ?_
    refine zi_aload_n 1 d_Pa_place_118 rfl ?_
    obtain ⟨v_15, ev_15, h⟩ := zbind h
    refine zo_getI 122 zkd_4 8 d_Pa_place_119 ev_15 rfl tw_306 rfl ?_
    refine zi_icmp_le (tgt := 137) d_Pa_place_122 rfl (fun c_16 => ?_) (fun c_16 => ?_)
    · rw [if_pos c_16] at h
      refine zi_lo [(0, .ref a0), (1, .ref a1), (3, .int x3), (4, .int x4)] [1, 2, 3, 4] rfl ?_
      exact K_Pa_place_b137 n E S r98 a0 a1 x3 x4 q_14.2 r M' hr98 h
    · rw [if_neg c_16] at h
      refine zi_aload_n 1 d_Pa_place_125 rfl ?_
      refine zi_iload 0 d_Pa_place_126 rfl ?_
      obtain ⟨m_17, em_17, h⟩ := zbind h
      refine zo_putI 131 zkd_4 8 d_Pa_place_128 em_17 rfl rfl rfl tw_306 rfl ?_
      refine zi_aload_n 1 d_Pa_place_131 rfl ?_
      refine zi_iload 4 d_Pa_place_132 rfl ?_
      obtain ⟨m_18, em_18, h⟩ := zbind h
      refine zo_putI 137 zkd_4 9 d_Pa_place_134 em_18 rfl rfl rfl tw_308 rfl ?_
      refine zi_lo [(0, .ref a0), (1, .ref a1), (3, .int x3), (4, .int x4)] [1, 2, 3, 4] rfl ?_
      exact K_Pa_place_b137 n E S r98 a0 a1 x3 x4 m_18 r M' hr98 h
theorem K_Pa_place_b98 (n : Nat) (E : zE) (S : zS) (a0 : Nat) (a1 : Nat) (x3 : Int32) (x4 : Int32) (M : zH) (r : Bool) (M' : zH)  (h : F_Pa_place_b98 n E S (a0, a1, x3, x4, M) = some (r, M')) : zG E Y_Pa_place (some (.int (bI r)), S, M') 98 [(0, .ref a0), (1, .ref a1), (3, .int x3), (4, .int x4)] [] S M 0 0 := by
  have key : ∀ (k : Nat) (a0 : Nat) (a1 : Nat) (x3 : Int32) (x4 : Int32) (M : zH), zfix (fun r98 s => F_Pa_place_L98 n E S r98 s.1 s.2.1 s.2.2.1 s.2.2.2.1 s.2.2.2.2) k (a0, a1, x3, x4, M) = some (r, M') → zG E Y_Pa_place (some (.int (bI r)), S, M') 98 [(0, .ref a0), (1, .ref a1), (3, .int x3), (4, .int x4)] [] S M 0 0 := by
    intro k
    induction k with
    | zero => intro a0 a1 x3 x4 M h; cases h
    | succ k ih => intro a0 a1 x3 x4 M h; exact K_Pa_place_L98 n E S _ a0 a1 x3 x4 M r M'  (fun a0 a1 x3 x4 M h => ih a0 a1 x3 x4 M h) h
  exact key n a0 a1 x3 x4 M h
theorem K_Pa_place_L8 (n : Nat) (E : zE) (S : zS) (r8 : Nat × Nat × Int32 × Int32 × zH → Option (Bool × zH)) (a0 : Nat) (a1 : Nat) (x2 : Int32) (x3 : Int32) (M : zH) (r : Bool) (M' : zH) (hr8 : ∀ (a0 : Nat) (a1 : Nat) (x2 : Int32) (x3 : Int32) (M : zH), r8 (a0, a1, x2, x3, M) = some (r, M') → zG E Y_Pa_place (some (.int (bI r)), S, M') 8 [(0, .ref a0), (1, .ref a1), (2, .int x2), (3, .int x3)] [] S M 0 0) (h : F_Pa_place_L8 n E S r8 a0 a1 x2 x3 M = some (r, M')) : zG E Y_Pa_place (some (.int (bI r)), S, M') 8 [(0, .ref a0), (1, .ref a1), (2, .int x2), (3, .int x3)] [] S M 0 0 := by
  unfold F_Pa_place_L8 at h
  refine zi_iload_n 3 d_Pa_place_8 rfl ?_
  refine zi_aload_n 1 d_Pa_place_9 rfl ?_
  obtain ⟨v_19, ev_19, h⟩ := zbind h
  refine zo_getI 13 zkd_3 11 d_Pa_place_10 ev_19 rfl tw_88 rfl ?_
  refine zi_icmp_ge (tgt := 81) d_Pa_place_13 rfl (fun c_20 => ?_) (fun c_20 => ?_)
  · rw [if_pos c_20] at h
    refine zi_aload_n 0 d_Pa_place_81 rfl ?_
    refine zi_iconst (-1) d_Pa_place_82 rfl ?_
    obtain ⟨m_21, em_21, h⟩ := zbind h
    refine zo_putI 86 zkd_4 8 d_Pa_place_83 em_21 rfl rfl rfl tw_306 rfl ?_
    refine zi_iconst 1 d_Pa_place_86 rfl ?_
    refine zi_iconst 3 d_Pa_place_87 rfl ?_
    refine zi_aload_n 1 d_Pa_place_88 rfl ?_
    obtain ⟨v_22, ev_22, h⟩ := zbind h
    refine zo_getI 92 zkd_3 11 d_Pa_place_89 ev_22 rfl tw_88 rfl ?_
    refine zi_imul d_Pa_place_92 ?_
    refine zi_ishl d_Pa_place_93 ?_
    refine zi_istore_n [(3, .int ((1 : Int32) <<< ((3 * v_22) &&& (31 : Int32)))), (0, .ref a0), (1, .ref a1), (2, .int x2)] d_Pa_place_94 (by decide) rfl ?_
    refine zi_iconst 0 d_Pa_place_95 rfl ?_
    refine zi_istore [(4, .int 0), (3, .int ((1 : Int32) <<< ((3 * v_22) &&& (31 : Int32)))), (0, .ref a0), (1, .ref a1), (2, .int x2)] d_Pa_place_96 (by decide) rfl ?_
    refine zi_lo [(0, .ref a0), (1, .ref a1), (3, .int ((1 : Int32) <<< ((3 * v_22) &&& (31 : Int32)))), (4, .int 0)] [2, 3, 1, 0] rfl ?_
    exact K_Pa_place_b98 n E S a0 a1 ((1 : Int32) <<< ((3 * v_22) &&& (31 : Int32))) 0 m_21 r M'  h
  · rw [if_neg c_20] at h
    refine zi_iconst 0 d_Pa_place_16 rfl ?_
    refine zi_istore [(4, .int 0), (0, .ref a0), (1, .ref a1), (2, .int x2), (3, .int x3)] d_Pa_place_17 (by decide) rfl ?_
    refine zi_lo [(0, .ref a0), (1, .ref a1), (2, .int x2), (3, .int x3), (4, .int 0)] [1, 2, 3, 4, 0] rfl ?_
    exact K_Pa_place_b19 n E S r8 a0 a1 x2 x3 0 M r M' hr8 h
theorem K_Pa_place_b8 (n : Nat) (E : zE) (S : zS) (a0 : Nat) (a1 : Nat) (x2 : Int32) (x3 : Int32) (M : zH) (r : Bool) (M' : zH)  (h : F_Pa_place_b8 n E S (a0, a1, x2, x3, M) = some (r, M')) : zG E Y_Pa_place (some (.int (bI r)), S, M') 8 [(0, .ref a0), (1, .ref a1), (2, .int x2), (3, .int x3)] [] S M 0 0 := by
  have key : ∀ (k : Nat) (a0 : Nat) (a1 : Nat) (x2 : Int32) (x3 : Int32) (M : zH), zfix (fun r8 s => F_Pa_place_L8 n E S r8 s.1 s.2.1 s.2.2.1 s.2.2.2.1 s.2.2.2.2) k (a0, a1, x2, x3, M) = some (r, M') → zG E Y_Pa_place (some (.int (bI r)), S, M') 8 [(0, .ref a0), (1, .ref a1), (2, .int x2), (3, .int x3)] [] S M 0 0 := by
    intro k
    induction k with
    | zero => intro a0 a1 x2 x3 M h; cases h
    | succ k ih => intro a0 a1 x2 x3 M h; exact K_Pa_place_L8 n E S _ a0 a1 x2 x3 M r M'  (fun a0 a1 x2 x3 M h => ih a0 a1 x2 x3 M h) h
  exact key n a0 a1 x2 x3 M h
theorem K_Pa_place (n : Nat) (E : zE) (S : zS) (a0 : Nat) (a1 : Nat) (x2 : Int32) (M : zH) (r : Bool) (M' : zH)  (h : F_Pa_place n E S a0 a1 x2 M = some (r, M')) : zG E Y_Pa_place (some (.int (bI r)), S, M') 0 [(0, .ref a0), (1, .ref a1), (2, .int x2)] [] S M 0 0 := by
  unfold F_Pa_place at h
  refine zi_aload_n 0 d_Pa_place_0 rfl ?_
  refine zi_aload_n 1 d_Pa_place_1 rfl ?_
  refine zi_iload_n 2 d_Pa_place_2 rfl ?_
  obtain ⟨u_23, eu_23, h⟩ := zbind h
  obtain ⟨q_24, eq_24, h⟩ := zbind h
  refine zo_virt (k' := 0) (n' := 0) 6 [.ref a1, .int x2] [] [] zkd_4 (zck_s eu_23) (C_Pa_findFalls n E S a0 a1 x2 M q_24 eq_24) d_Pa_place_3 tw_996 tw_993 tw_995 ts_25 tw_12 dd_Pa_findFalls ⟨Nat.le_of_ble_eq_true rfl, Nat.le_of_ble_eq_true rfl, Nat.le_of_ble_eq_true rfl, Nat.le_of_ble_eq_true rfl⟩ (Nat.le_of_ble_eq_true rfl) rfl rfl rfl rfl ?_
  refine zi_iconst 0 d_Pa_place_6 rfl ?_
  refine zi_istore_n [(3, .int 0), (0, .ref a0), (1, .ref a1), (2, .int x2)] d_Pa_place_7 (by decide) rfl ?_
  refine zi_lo [(0, .ref a0), (1, .ref a1), (2, .int x2), (3, .int 0)] [1, 2, 3, 0] rfl ?_
  exact K_Pa_place_b8 n E S a0 a1 x2 0 q_24 r M'  h
theorem C_Pa_place (n : Nat) (E : zE) (S : zS) (a0 : Nat) (a1 : Nat) (x2 : Int32) (M : zH) (r : Bool) (M' : zH) (h : F_Pa_place n E S a0 a1 x2 M = some (r, M')) : zC E Y_Pa_place [.ref a0, .ref a1, .int x2] S M (some (.int (bI r)), S, M') :=
  zC.of (Or.inl (show plainName "NightColander$Paper" = true by decide)) (Nat.le_of_ble_eq_true rfl) (bI_nar r) (K_Pa_place n E S a0 a1 x2 M r M' h)
theorem d_NC_placed_0 : decode (yB Y_NC_placed) 0 = .ok (.iload_n 1, 1) := by decide +kernel
theorem d_NC_placed_1 : decode (yB Y_NC_placed) 1 = .ok (.iconst 1, 1) := by decide +kernel
theorem d_NC_placed_2 : decode (yB Y_NC_placed) 2 = .ok (.bipush 9, 2) := by decide +kernel
theorem d_NC_placed_4 : decode (yB Y_NC_placed) 4 = .ok (.invokestatic 132, 3) := by decide +kernel
theorem d_NC_placed_7 : decode (yB Y_NC_placed) 7 = .ok (.ifCond .eq 24, 3) := by decide +kernel
theorem d_NC_placed_10 : decode (yB Y_NC_placed) 10 = .ok (.iload_n 2, 1) := by decide +kernel
theorem d_NC_placed_11 : decode (yB Y_NC_placed) 11 = .ok (.ifCond .lt 20, 3) := by decide +kernel
theorem d_NC_placed_14 : decode (yB Y_NC_placed) 14 = .ok (.iload_n 2, 1) := by decide +kernel
theorem d_NC_placed_15 : decode (yB Y_NC_placed) 15 = .ok (.ifCond .le 18, 3) := by decide +kernel
theorem d_NC_placed_18 : decode (yB Y_NC_placed) 18 = .ok (.aload_n 0, 1) := by decide +kernel
theorem d_NC_placed_19 : decode (yB Y_NC_placed) 19 = .ok (.getfield 12, 3) := by decide +kernel
theorem d_NC_placed_22 : decode (yB Y_NC_placed) 22 = .ok (.iload_n 2, 1) := by decide +kernel
theorem d_NC_placed_23 : decode (yB Y_NC_placed) 23 = .ok (.iconst 1, 1) := by decide +kernel
theorem d_NC_placed_24 : decode (yB Y_NC_placed) 24 = .ok (.isub, 1) := by decide +kernel
theorem d_NC_placed_25 : decode (yB Y_NC_placed) 25 = .ok (.invokevirtual 161, 3) := by decide +kernel
theorem d_NC_placed_28 : decode (yB Y_NC_placed) 28 = .ok (.ifCond .ne 5, 3) := by decide +kernel
theorem d_NC_placed_31 : decode (yB Y_NC_placed) 31 = .ok (.iconst (-1), 1) := by decide +kernel
theorem d_NC_placed_32 : decode (yB Y_NC_placed) 32 = .ok (.ireturn, 1) := by decide +kernel
theorem d_NC_placed_33 : decode (yB Y_NC_placed) 33 = .ok (.aload_n 0, 1) := by decide +kernel
theorem d_NC_placed_34 : decode (yB Y_NC_placed) 34 = .ok (.getfield 86, 3) := by decide +kernel
theorem d_NC_placed_37 : decode (yB Y_NC_placed) 37 = .ok (.aload_n 0, 1) := by decide +kernel
theorem d_NC_placed_38 : decode (yB Y_NC_placed) 38 = .ok (.getfield 12, 3) := by decide +kernel
theorem d_NC_placed_41 : decode (yB Y_NC_placed) 41 = .ok (.iload_n 1, 1) := by decide +kernel
theorem d_NC_placed_42 : decode (yB Y_NC_placed) 42 = .ok (.invokevirtual 263, 3) := by decide +kernel
theorem d_NC_placed_45 : decode (yB Y_NC_placed) 45 = .ok (.ifCond .ne 5, 3) := by decide +kernel
theorem d_NC_placed_48 : decode (yB Y_NC_placed) 48 = .ok (.iconst (-1), 1) := by decide +kernel
theorem d_NC_placed_49 : decode (yB Y_NC_placed) 49 = .ok (.ireturn, 1) := by decide +kernel
theorem d_NC_placed_50 : decode (yB Y_NC_placed) 50 = .ok (.iload_n 2, 1) := by decide +kernel
theorem d_NC_placed_51 : decode (yB Y_NC_placed) 51 = .ok (.ifCond .ne 13, 3) := by decide +kernel
theorem d_NC_placed_54 : decode (yB Y_NC_placed) 54 = .ok (.aload_n 0, 1) := by decide +kernel
theorem d_NC_placed_55 : decode (yB Y_NC_placed) 55 = .ok (.getfield 86, 3) := by decide +kernel
theorem d_NC_placed_58 : decode (yB Y_NC_placed) 58 = .ok (.getfield 267, 3) := by decide +kernel
theorem d_NC_placed_61 : decode (yB Y_NC_placed) 61 = .ok (.goto 19, 3) := by decide +kernel
theorem d_NC_placed_64 : decode (yB Y_NC_placed) 64 = .ok (.aload_n 0, 1) := by decide +kernel
theorem d_NC_placed_65 : decode (yB Y_NC_placed) 65 = .ok (.getfield 86, 3) := by decide +kernel
theorem d_NC_placed_68 : decode (yB Y_NC_placed) 68 = .ok (.aload_n 0, 1) := by decide +kernel
theorem d_NC_placed_69 : decode (yB Y_NC_placed) 69 = .ok (.getfield 12, 3) := by decide +kernel
theorem d_NC_placed_72 : decode (yB Y_NC_placed) 72 = .ok (.getfield 155, 3) := by decide +kernel
theorem d_NC_placed_75 : decode (yB Y_NC_placed) 75 = .ok (.iload_n 2, 1) := by decide +kernel
theorem d_NC_placed_76 : decode (yB Y_NC_placed) 76 = .ok (.isub, 1) := by decide +kernel
theorem d_NC_placed_77 : decode (yB Y_NC_placed) 77 = .ok (.invokevirtual 270, 3) := by decide +kernel
theorem d_NC_placed_80 : decode (yB Y_NC_placed) 80 = .ok (.ireturn, 1) := by decide +kernel
def F_NC_placed_b33 (n : Nat) (E : zE) (S : zS) (a0 : Nat) (x1 : Int32) (x2 : Int32) (M : zH) : Option (Int32 × zH) :=
  (zgR S a0 10 12).bind fun b_1 =>
  (zgR S a0 10 0).bind fun b_2 =>
  (zck S b_1 4).bind fun u_3 =>
  (F_Pa_place n E S b_1 b_2 x1 M).bind fun q_4 =>
  if q_4.1 = true then
    if x2 = 0 then
      (zgI S q_4.2 b_1 4 8).bind fun v_7 =>
      some (v_7, q_4.2)
    else
      (zgI S q_4.2 b_2 3 11).bind fun v_8 =>
      (F_Pa_digitOfChoice n E S b_1 (v_8 - x2) q_4.2).bind fun q_9 =>
      some (q_9.1, q_9.2)
  else
    some ((-1), q_4.2)
def F_NC_placed (n : Nat) (E : zE) (S : zS) (a0 : Nat) (x1 : Int32) (x2 : Int32) (M : zH) : Option (Int32 × zH) :=
  (F_NC_within n E S x1 1 9 M).bind fun q_10 =>
  if q_10.1 = true then
    if x2 < 0 then
      some ((-1), q_10.2)
    else
      if x2 ≤ 0 then
        F_NC_placed_b33 n E S a0 x1 x2 q_10.2
      else
        (zgR S a0 10 0).bind fun b_14 =>
        (zck S b_14 3).bind fun u_15 =>
        (F_Ni_hasBucket n E S b_14 (x2 - 1) q_10.2).bind fun q_16 =>
        if q_16.1 = true then
          F_NC_placed_b33 n E S a0 x1 x2 q_16.2
        else
          some ((-1), q_16.2)
  else
    some ((-1), q_10.2)
theorem K_NC_placed_b33 (n : Nat) (E : zE) (S : zS) (a0 : Nat) (x1 : Int32) (x2 : Int32) (M : zH) (r : Int32) (M' : zH)  (h : F_NC_placed_b33 n E S a0 x1 x2 M = some (r, M')) : zG E Y_NC_placed (some (.int r), S, M') 33 [(0, .ref a0), (1, .int x1), (2, .int x2)] [] S M 0 0 := by
  unfold F_NC_placed_b33 at h
  refine zi_aload_n 0 d_NC_placed_33 rfl ?_
  obtain ⟨b_1, eb_1, h⟩ := zbind h
  refine zo_getR 37 zkd_10 12 d_NC_placed_34 eb_1 rfl tw_344 rfl ?_
  refine zi_aload_n 0 d_NC_placed_37 rfl ?_
  obtain ⟨b_2, eb_2, h⟩ := zbind h
  refine zo_getR 41 zkd_10 0 d_NC_placed_38 eb_2 rfl tw_332 rfl ?_
  refine zi_iload_n 1 d_NC_placed_41 rfl ?_
  obtain ⟨u_3, eu_3, h⟩ := zbind h
  obtain ⟨q_4, eq_4, h⟩ := zbind h
  refine zo_virt (k' := 0) (n' := 0) 45 [.ref b_2, .int x1] [] [.int (bI q_4.1)] zkd_4 (zck_s eu_3) (C_Pa_place n E S b_1 b_2 x1 M q_4.1 q_4.2 eq_4) d_NC_placed_42 tw_992 tw_989 tw_990 tw_991 tw_12 dd_Pa_place ⟨Nat.le_of_ble_eq_true rfl, Nat.le_of_ble_eq_true rfl, Nat.le_of_ble_eq_true rfl, Nat.le_of_ble_eq_true rfl⟩ (Nat.le_of_ble_eq_true rfl) rfl rfl rfl rfl ?_
  refine zo_ifneB d_NC_placed_45 rfl 48 rfl (fun c_5 => ?_) (fun c_5 => ?_)
  · rw [if_pos c_5] at h
    refine zi_iload_n 2 d_NC_placed_50 rfl ?_
    refine zi_if_ne (tgt := 64) d_NC_placed_51 rfl (fun c_6 => ?_) (fun c_6 => ?_)
    · rw [if_neg c_6] at h
      refine zi_aload_n 0 d_NC_placed_64 rfl ?_
      refine zo_getR 68 zkd_10 12 d_NC_placed_65 eb_1 rfl tw_344 rfl ?_
      refine zi_aload_n 0 d_NC_placed_68 rfl ?_
      refine zo_getR 72 zkd_10 0 d_NC_placed_69 eb_2 rfl tw_332 rfl ?_
      obtain ⟨v_8, ev_8, h⟩ := zbind h
      refine zo_getI 75 zkd_3 11 d_NC_placed_72 ev_8 rfl tw_87 rfl ?_
      refine zi_iload_n 2 d_NC_placed_75 rfl ?_
      refine zi_isub d_NC_placed_76 ?_
      obtain ⟨q_9, eq_9, h⟩ := zbind h
      refine zo_virt (k' := 0) (n' := 0) 80 [.int (v_8 - x2)] [] [.int q_9.1] zkd_4 (zck_s eu_3) (C_Pa_digitOfChoice n E S b_1 (v_8 - x2) q_4.2 q_9.1 q_9.2 eq_9) d_NC_placed_77 tw_1012 tw_1009 tw_1010 tw_1011 tw_12 dd_Pa_digitOfChoice ⟨Nat.le_of_ble_eq_true rfl, Nat.le_of_ble_eq_true rfl, Nat.le_of_ble_eq_true rfl, Nat.le_of_ble_eq_true rfl⟩ (Nat.le_of_ble_eq_true rfl) rfl rfl rfl rfl ?_
      cases h
      exact zo_ret d_NC_placed_80 (Nat.le_of_ble_eq_true rfl) (Nat.le_of_ble_eq_true rfl) rfl
    · rw [if_pos c_6] at h
      refine zi_aload_n 0 d_NC_placed_54 rfl ?_
      refine zo_getR 58 zkd_10 12 d_NC_placed_55 eb_1 rfl tw_344 rfl ?_
      obtain ⟨v_7, ev_7, h⟩ := zbind h
      refine zo_getI 61 zkd_4 8 d_NC_placed_58 ev_7 rfl tw_307 rfl ?_
      refine zi_goto (tgt := 80) d_NC_placed_61 rfl ?_
      cases h
      exact zo_ret d_NC_placed_80 (Nat.le_of_ble_eq_true rfl) (Nat.le_of_ble_eq_true rfl) rfl
  · rw [if_neg c_5] at h
    refine zi_iconst (-1) d_NC_placed_48 rfl ?_
    cases h
    exact zo_ret d_NC_placed_49 (Nat.le_of_ble_eq_true rfl) (Nat.le_of_ble_eq_true rfl) rfl
theorem K_NC_placed (n : Nat) (E : zE) (S : zS) (a0 : Nat) (x1 : Int32) (x2 : Int32) (M : zH) (r : Int32) (M' : zH)  (h : F_NC_placed n E S a0 x1 x2 M = some (r, M')) : zG E Y_NC_placed (some (.int r), S, M') 0 [(0, .ref a0), (1, .int x1), (2, .int x2)] [] S M 0 0 := by
  unfold F_NC_placed at h
  refine zi_iload_n 1 d_NC_placed_0 rfl ?_
  refine zi_iconst 1 d_NC_placed_1 rfl ?_
  refine zi_bipush 9 d_NC_placed_2 rfl ?_
  obtain ⟨q_10, eq_10, h⟩ := zbind h
  refine zo_stat (k' := 0) (n' := 0) 7 [.int x1, .int 1, .int 9] [] [.int (bI q_10.1)] (C_NC_within n E S x1 1 9 M q_10.1 q_10.2 eq_10) d_NC_placed_4 tw_399 tw_397 tw_398 tw_1 dd_NC_within ⟨Nat.le_of_ble_eq_true rfl, Nat.le_of_ble_eq_true rfl, Nat.le_of_ble_eq_true rfl, Nat.le_of_ble_eq_true rfl⟩ (Nat.le_of_ble_eq_true rfl) rfl rfl rfl rfl ?_
  refine zo_ifeqB d_NC_placed_7 rfl 10 rfl (fun c_11 => ?_) (fun c_11 => ?_)
  · rw [if_neg c_11] at h
    refine zi_iconst (-1) d_NC_placed_31 rfl ?_
    cases h
    exact zo_ret d_NC_placed_32 (Nat.le_of_ble_eq_true rfl) (Nat.le_of_ble_eq_true rfl) rfl
  · rw [if_pos c_11] at h
    refine zi_iload_n 2 d_NC_placed_10 rfl ?_
    refine zi_if_lt (tgt := 31) d_NC_placed_11 rfl (fun c_12 => ?_) (fun c_12 => ?_)
    · rw [if_pos c_12] at h
      refine zi_iconst (-1) d_NC_placed_31 rfl ?_
      cases h
      exact zo_ret d_NC_placed_32 (Nat.le_of_ble_eq_true rfl) (Nat.le_of_ble_eq_true rfl) rfl
    · rw [if_neg c_12] at h
      refine zi_iload_n 2 d_NC_placed_14 rfl ?_
      refine zi_if_le (tgt := 33) d_NC_placed_15 rfl (fun c_13 => ?_) (fun c_13 => ?_)
      · rw [if_pos c_13] at h
        refine zi_lo [(0, .ref a0), (1, .int x1), (2, .int x2)] [0, 1, 2] rfl ?_
        exact K_NC_placed_b33 n E S a0 x1 x2 q_10.2 r M'  h
      · rw [if_neg c_13] at h
        refine zi_aload_n 0 d_NC_placed_18 rfl ?_
        obtain ⟨b_14, eb_14, h⟩ := zbind h
        refine zo_getR 22 zkd_10 0 d_NC_placed_19 eb_14 rfl tw_332 rfl ?_
        refine zi_iload_n 2 d_NC_placed_22 rfl ?_
        refine zi_iconst 1 d_NC_placed_23 rfl ?_
        refine zi_isub d_NC_placed_24 ?_
        obtain ⟨u_15, eu_15, h⟩ := zbind h
        obtain ⟨q_16, eq_16, h⟩ := zbind h
        refine zo_virt (k' := 0) (n' := 0) 28 [.int (x2 - 1)] [] [.int (bI q_16.1)] zkd_3 (zck_s eu_15) (C_Ni_hasBucket n E S b_14 (x2 - 1) q_10.2 q_16.1 q_16.2 eq_16) d_NC_placed_25 tw_479 tw_476 tw_477 tw_478 tw_2 dd_Ni_hasBucket ⟨Nat.le_of_ble_eq_true rfl, Nat.le_of_ble_eq_true rfl, Nat.le_of_ble_eq_true rfl, Nat.le_of_ble_eq_true rfl⟩ (Nat.le_of_ble_eq_true rfl) rfl rfl rfl rfl ?_
        refine zo_ifneB d_NC_placed_28 rfl 31 rfl (fun c_17 => ?_) (fun c_17 => ?_)
        · rw [if_pos c_17] at h
          refine zi_lo [(0, .ref a0), (1, .int x1), (2, .int x2)] [0, 1, 2] rfl ?_
          exact K_NC_placed_b33 n E S a0 x1 x2 q_16.2 r M'  h
        · rw [if_neg c_17] at h
          refine zi_iconst (-1) d_NC_placed_31 rfl ?_
          cases h
          exact zo_ret d_NC_placed_32 (Nat.le_of_ble_eq_true rfl) (Nat.le_of_ble_eq_true rfl) rfl
theorem C_NC_placed (n : Nat) (E : zE) (S : zS) (a0 : Nat) (x1 : Int32) (x2 : Int32) (M : zH) (r : Int32) (M' : zH) (h : F_NC_placed n E S a0 x1 x2 M = some (r, M')) : zC E Y_NC_placed [.ref a0, .int x1, .int x2] S M (some (.int r), S, M') :=
  zC.of (Or.inl (show plainName "NightColander" = true by decide)) (Nat.le_of_ble_eq_true rfl) (trivial) (K_NC_placed n E S a0 x1 x2 M r M' h)
theorem d_Ni_addSeen_0 : decode (yB Y_Ni_addSeen) 0 = .ok (.aload_n 0, 1) := by decide +kernel
theorem d_Ni_addSeen_1 : decode (yB Y_Ni_addSeen) 1 = .ok (.getfield 53, 3) := by decide +kernel
theorem d_Ni_addSeen_4 : decode (yB Y_Ni_addSeen) 4 = .ok (.bipush 6, 2) := by decide +kernel
theorem d_Ni_addSeen_6 : decode (yB Y_Ni_addSeen) 6 = .ok (.if_icmp .lt 5, 3) := by decide +kernel
theorem d_Ni_addSeen_9 : decode (yB Y_Ni_addSeen) 9 = .ok (.iconst (-1), 1) := by decide +kernel
theorem d_Ni_addSeen_10 : decode (yB Y_Ni_addSeen) 10 = .ok (.ireturn, 1) := by decide +kernel
theorem d_Ni_addSeen_11 : decode (yB Y_Ni_addSeen) 11 = .ok (.aload_n 0, 1) := by decide +kernel
theorem d_Ni_addSeen_12 : decode (yB Y_Ni_addSeen) 12 = .ok (.getfield 34, 3) := by decide +kernel
theorem d_Ni_addSeen_15 : decode (yB Y_Ni_addSeen) 15 = .ok (.aload_n 0, 1) := by decide +kernel
theorem d_Ni_addSeen_16 : decode (yB Y_Ni_addSeen) 16 = .ok (.getfield 53, 3) := by decide +kernel
theorem d_Ni_addSeen_19 : decode (yB Y_Ni_addSeen) 19 = .ok (.iload_n 1, 1) := by decide +kernel
theorem d_Ni_addSeen_20 : decode (yB Y_Ni_addSeen) 20 = .ok (.iastore, 1) := by decide +kernel
theorem d_Ni_addSeen_21 : decode (yB Y_Ni_addSeen) 21 = .ok (.aload_n 0, 1) := by decide +kernel
theorem d_Ni_addSeen_22 : decode (yB Y_Ni_addSeen) 22 = .ok (.getfield 37, 3) := by decide +kernel
theorem d_Ni_addSeen_25 : decode (yB Y_Ni_addSeen) 25 = .ok (.aload_n 0, 1) := by decide +kernel
theorem d_Ni_addSeen_26 : decode (yB Y_Ni_addSeen) 26 = .ok (.getfield 53, 3) := by decide +kernel
theorem d_Ni_addSeen_29 : decode (yB Y_Ni_addSeen) 29 = .ok (.iload_n 2, 1) := by decide +kernel
theorem d_Ni_addSeen_30 : decode (yB Y_Ni_addSeen) 30 = .ok (.iastore, 1) := by decide +kernel
theorem d_Ni_addSeen_31 : decode (yB Y_Ni_addSeen) 31 = .ok (.aload_n 0, 1) := by decide +kernel
theorem d_Ni_addSeen_32 : decode (yB Y_Ni_addSeen) 32 = .ok (.dup, 1) := by decide +kernel
theorem d_Ni_addSeen_33 : decode (yB Y_Ni_addSeen) 33 = .ok (.getfield 53, 3) := by decide +kernel
theorem d_Ni_addSeen_36 : decode (yB Y_Ni_addSeen) 36 = .ok (.iconst 1, 1) := by decide +kernel
theorem d_Ni_addSeen_37 : decode (yB Y_Ni_addSeen) 37 = .ok (.iadd, 1) := by decide +kernel
theorem d_Ni_addSeen_38 : decode (yB Y_Ni_addSeen) 38 = .ok (.putfield 53, 3) := by decide +kernel
theorem d_Ni_addSeen_41 : decode (yB Y_Ni_addSeen) 41 = .ok (.aload_n 0, 1) := by decide +kernel
theorem d_Ni_addSeen_42 : decode (yB Y_Ni_addSeen) 42 = .ok (.getfield 53, 3) := by decide +kernel
theorem d_Ni_addSeen_45 : decode (yB Y_Ni_addSeen) 45 = .ok (.ireturn, 1) := by decide +kernel
def F_Ni_addSeen (n : Nat) (E : zE) (S : zS) (a0 : Nat) (x1 : Int32) (x2 : Int32) (M : zH) : Option (Int32 × zH) :=
  (zgI S M a0 3 12).bind fun v_1 =>
  if v_1 < 6 then
    (zgR S a0 3 7).bind fun b_3 =>
    (zgI S M a0 3 12).bind fun v_4 =>
    (zstI S M b_3 v_4 x1).bind fun m_5 =>
    (zgR S a0 3 8).bind fun b_6 =>
    (zgI S m_5 a0 3 12).bind fun v_7 =>
    (zstI S m_5 b_6 v_7 x2).bind fun m_8 =>
    (zgI S m_8 a0 3 12).bind fun v_9 =>
    (zpI S m_8 a0 3 12 (v_9 + 1)).bind fun m_10 =>
    (zgI S m_10 a0 3 12).bind fun v_11 =>
    some (v_11, m_10)
  else
    some ((-1), M)
theorem K_Ni_addSeen (n : Nat) (E : zE) (S : zS) (a0 : Nat) (x1 : Int32) (x2 : Int32) (M : zH) (r : Int32) (M' : zH)  (h : F_Ni_addSeen n E S a0 x1 x2 M = some (r, M')) : zG E Y_Ni_addSeen (some (.int r), S, M') 0 [(0, .ref a0), (1, .int x1), (2, .int x2)] [] S M 0 0 := by
  unfold F_Ni_addSeen at h
  refine zi_aload_n 0 d_Ni_addSeen_0 rfl ?_
  obtain ⟨v_1, ev_1, h⟩ := zbind h
  refine zo_getI 4 zkd_3 12 d_Ni_addSeen_1 ev_1 rfl tw_90 rfl ?_
  refine zi_bipush 6 d_Ni_addSeen_4 rfl ?_
  refine zi_icmp_lt (tgt := 11) d_Ni_addSeen_6 rfl (fun c_2 => ?_) (fun c_2 => ?_)
  · rw [if_pos c_2] at h
    refine zi_aload_n 0 d_Ni_addSeen_11 rfl ?_
    obtain ⟨b_3, eb_3, h⟩ := zbind h
    refine zo_getR 15 zkd_3 7 d_Ni_addSeen_12 eb_3 rfl tw_76 rfl ?_
    refine zi_aload_n 0 d_Ni_addSeen_15 rfl ?_
    obtain ⟨v_4, ev_4, h⟩ := zbind h
    refine zo_getI 19 zkd_3 12 d_Ni_addSeen_16 ev_4 rfl tw_90 rfl ?_
    refine zi_iload_n 1 d_Ni_addSeen_19 rfl ?_
    obtain ⟨m_5, em_5, h⟩ := zbind h
    refine zo_iast 21 d_Ni_addSeen_20 em_5 rfl ?_
    refine zi_aload_n 0 d_Ni_addSeen_21 rfl ?_
    obtain ⟨b_6, eb_6, h⟩ := zbind h
    refine zo_getR 25 zkd_3 8 d_Ni_addSeen_22 eb_6 rfl tw_78 rfl ?_
    refine zi_aload_n 0 d_Ni_addSeen_25 rfl ?_
    obtain ⟨v_7, ev_7, h⟩ := zbind h
    refine zo_getI 29 zkd_3 12 d_Ni_addSeen_26 ev_7 rfl tw_90 rfl ?_
    refine zi_iload_n 2 d_Ni_addSeen_29 rfl ?_
    obtain ⟨m_8, em_8, h⟩ := zbind h
    refine zo_iast 31 d_Ni_addSeen_30 em_8 rfl ?_
    refine zi_aload_n 0 d_Ni_addSeen_31 rfl ?_
    refine zi_dup d_Ni_addSeen_32 rfl ?_
    obtain ⟨v_9, ev_9, h⟩ := zbind h
    refine zo_getI 36 zkd_3 12 d_Ni_addSeen_33 ev_9 rfl tw_90 rfl ?_
    refine zi_iconst 1 d_Ni_addSeen_36 rfl ?_
    refine zi_iadd d_Ni_addSeen_37 ?_
    obtain ⟨m_10, em_10, h⟩ := zbind h
    refine zo_putI 41 zkd_3 12 d_Ni_addSeen_38 em_10 rfl rfl rfl tw_90 rfl ?_
    refine zi_aload_n 0 d_Ni_addSeen_41 rfl ?_
    obtain ⟨v_11, ev_11, h⟩ := zbind h
    refine zo_getI 45 zkd_3 12 d_Ni_addSeen_42 ev_11 rfl tw_90 rfl ?_
    cases h
    exact zo_ret d_Ni_addSeen_45 (Nat.le_of_ble_eq_true rfl) (Nat.le_of_ble_eq_true rfl) rfl
  · rw [if_neg c_2] at h
    refine zi_iconst (-1) d_Ni_addSeen_9 rfl ?_
    cases h
    exact zo_ret d_Ni_addSeen_10 (Nat.le_of_ble_eq_true rfl) (Nat.le_of_ble_eq_true rfl) rfl
theorem C_Ni_addSeen (n : Nat) (E : zE) (S : zS) (a0 : Nat) (x1 : Int32) (x2 : Int32) (M : zH) (r : Int32) (M' : zH) (h : F_Ni_addSeen n E S a0 x1 x2 M = some (r, M')) : zC E Y_Ni_addSeen [.ref a0, .int x1, .int x2] S M (some (.int r), S, M') :=
  zC.of (Or.inl (show plainName "NightColander$Night" = true by decide)) (Nat.le_of_ble_eq_true rfl) (trivial) (K_Ni_addSeen n E S a0 x1 x2 M r M' h)
theorem d_NC_seen_0 : decode (yB Y_NC_seen) 0 = .ok (.iload_n 1, 1) := by decide +kernel
theorem d_NC_seen_1 : decode (yB Y_NC_seen) 1 = .ok (.invokestatic 149, 3) := by decide +kernel
theorem d_NC_seen_4 : decode (yB Y_NC_seen) 4 = .ok (.ifCond .eq 14, 3) := by decide +kernel
theorem d_NC_seen_7 : decode (yB Y_NC_seen) 7 = .ok (.iload_n 2, 1) := by decide +kernel
theorem d_NC_seen_8 : decode (yB Y_NC_seen) 8 = .ok (.iconst 0, 1) := by decide +kernel
theorem d_NC_seen_9 : decode (yB Y_NC_seen) 9 = .ok (.sipush 400, 3) := by decide +kernel
theorem d_NC_seen_12 : decode (yB Y_NC_seen) 12 = .ok (.invokestatic 132, 3) := by decide +kernel
theorem d_NC_seen_15 : decode (yB Y_NC_seen) 15 = .ok (.ifCond .ne 9, 3) := by decide +kernel
theorem d_NC_seen_18 : decode (yB Y_NC_seen) 18 = .ok (.aload_n 0, 1) := by decide +kernel
theorem d_NC_seen_19 : decode (yB Y_NC_seen) 19 = .ok (.iconst (-1), 1) := by decide +kernel
theorem d_NC_seen_20 : decode (yB Y_NC_seen) 20 = .ok (.invokevirtual 136, 3) := by decide +kernel
theorem d_NC_seen_23 : decode (yB Y_NC_seen) 23 = .ok (.ireturn, 1) := by decide +kernel
theorem d_NC_seen_24 : decode (yB Y_NC_seen) 24 = .ok (.aload_n 0, 1) := by decide +kernel
theorem d_NC_seen_25 : decode (yB Y_NC_seen) 25 = .ok (.getfield 12, 3) := by decide +kernel
theorem d_NC_seen_28 : decode (yB Y_NC_seen) 28 = .ok (.getfield 273, 3) := by decide +kernel
theorem d_NC_seen_31 : decode (yB Y_NC_seen) 31 = .ok (.bipush 6, 2) := by decide +kernel
theorem d_NC_seen_33 : decode (yB Y_NC_seen) 33 = .ok (.if_icmp .lt 10, 3) := by decide +kernel
theorem d_NC_seen_36 : decode (yB Y_NC_seen) 36 = .ok (.aload_n 0, 1) := by decide +kernel
theorem d_NC_seen_37 : decode (yB Y_NC_seen) 37 = .ok (.bipush (-5), 2) := by decide +kernel
theorem d_NC_seen_39 : decode (yB Y_NC_seen) 39 = .ok (.invokevirtual 136, 3) := by decide +kernel
theorem d_NC_seen_42 : decode (yB Y_NC_seen) 42 = .ok (.ireturn, 1) := by decide +kernel
theorem d_NC_seen_43 : decode (yB Y_NC_seen) 43 = .ok (.aload_n 0, 1) := by decide +kernel
theorem d_NC_seen_44 : decode (yB Y_NC_seen) 44 = .ok (.aload_n 0, 1) := by decide +kernel
theorem d_NC_seen_45 : decode (yB Y_NC_seen) 45 = .ok (.getfield 12, 3) := by decide +kernel
theorem d_NC_seen_48 : decode (yB Y_NC_seen) 48 = .ok (.iload_n 1, 1) := by decide +kernel
theorem d_NC_seen_49 : decode (yB Y_NC_seen) 49 = .ok (.iload_n 2, 1) := by decide +kernel
theorem d_NC_seen_50 : decode (yB Y_NC_seen) 50 = .ok (.invokevirtual 276, 3) := by decide +kernel
theorem d_NC_seen_53 : decode (yB Y_NC_seen) 53 = .ok (.invokevirtual 146, 3) := by decide +kernel
theorem d_NC_seen_56 : decode (yB Y_NC_seen) 56 = .ok (.ireturn, 1) := by decide +kernel
def F_NC_seen_b18 (n : Nat) (E : zE) (S : zS) (a0 : Nat) (M : zH) : Option (Int32 × zH) :=
  (zck S a0 10).bind fun u_1 =>
  (F_NC_refuse n E S a0 (-1) M).bind fun q_2 =>
  some (q_2.1, q_2.2)
def F_NC_seen (n : Nat) (E : zE) (S : zS) (a0 : Nat) (x1 : Int32) (x2 : Int32) (M : zH) : Option (Int32 × zH) :=
  (F_NC_isField n E S x1 M).bind fun q_3 =>
  if q_3.1 = true then
    (F_NC_within n E S x2 0 400 q_3.2).bind fun q_5 =>
    if q_5.1 = true then
      (zgR S a0 10 0).bind fun b_7 =>
      (zgI S q_5.2 b_7 3 12).bind fun v_8 =>
      if v_8 < 6 then
        (F_Ni_addSeen n E S b_7 x1 x2 q_5.2).bind fun q_10 =>
        (F_NC_accept n E S a0 q_10.1 q_10.2).bind fun q_11 =>
        some (q_11.1, q_11.2)
      else
        (F_NC_refuse n E S a0 (-5) q_5.2).bind fun q_12 =>
        some (q_12.1, q_12.2)
    else
      F_NC_seen_b18 n E S a0 q_5.2
  else
    F_NC_seen_b18 n E S a0 q_3.2
theorem K_NC_seen_b18 (n : Nat) (E : zE) (S : zS) (a0 : Nat) (M : zH) (r : Int32) (M' : zH)  (h : F_NC_seen_b18 n E S a0 M = some (r, M')) : zG E Y_NC_seen (some (.int r), S, M') 18 [(0, .ref a0)] [] S M 0 0 := by
  unfold F_NC_seen_b18 at h
  refine zi_aload_n 0 d_NC_seen_18 rfl ?_
  refine zi_iconst (-1) d_NC_seen_19 rfl ?_
  obtain ⟨u_1, eu_1, h⟩ := zbind h
  obtain ⟨q_2, eq_2, h⟩ := zbind h
  refine zo_virt (k' := 0) (n' := 0) 23 [.int (-1)] [] [.int q_2.1] zkd_10 (zck_s eu_1) (C_NC_refuse n E S a0 (-1) M q_2.1 q_2.2 eq_2) d_NC_seen_20 tw_448 tw_445 tw_447 ts_1 tw_1 dd_NC_refuse ⟨Nat.le_of_ble_eq_true rfl, Nat.le_of_ble_eq_true rfl, Nat.le_of_ble_eq_true rfl, Nat.le_of_ble_eq_true rfl⟩ (Nat.le_of_ble_eq_true rfl) rfl rfl rfl rfl ?_
  cases h
  exact zo_ret d_NC_seen_23 (Nat.le_of_ble_eq_true rfl) (Nat.le_of_ble_eq_true rfl) rfl
theorem K_NC_seen (n : Nat) (E : zE) (S : zS) (a0 : Nat) (x1 : Int32) (x2 : Int32) (M : zH) (r : Int32) (M' : zH)  (h : F_NC_seen n E S a0 x1 x2 M = some (r, M')) : zG E Y_NC_seen (some (.int r), S, M') 0 [(0, .ref a0), (1, .int x1), (2, .int x2)] [] S M 0 0 := by
  unfold F_NC_seen at h
  refine zi_iload_n 1 d_NC_seen_0 rfl ?_
  obtain ⟨q_3, eq_3, h⟩ := zbind h
  refine zo_stat (k' := 0) (n' := 0) 4 [.int x1] [] [.int (bI q_3.1)] (C_NC_isField n E S x1 M q_3.1 q_3.2 eq_3) d_NC_seen_1 tw_463 tw_461 tw_462 tw_1 dd_NC_isField ⟨Nat.le_of_ble_eq_true rfl, Nat.le_of_ble_eq_true rfl, Nat.le_of_ble_eq_true rfl, Nat.le_of_ble_eq_true rfl⟩ (Nat.le_of_ble_eq_true rfl) rfl rfl rfl rfl ?_
  refine zo_ifeqB d_NC_seen_4 rfl 7 rfl (fun c_4 => ?_) (fun c_4 => ?_)
  · rw [if_neg c_4] at h
    refine zi_lo [(0, .ref a0)] [0] rfl ?_
    exact K_NC_seen_b18 n E S a0 q_3.2 r M'  h
  · rw [if_pos c_4] at h
    refine zi_iload_n 2 d_NC_seen_7 rfl ?_
    refine zi_iconst 0 d_NC_seen_8 rfl ?_
    refine zi_sipush 400 d_NC_seen_9 rfl ?_
    obtain ⟨q_5, eq_5, h⟩ := zbind h
    refine zo_stat (k' := 0) (n' := 0) 15 [.int x2, .int 0, .int 400] [] [.int (bI q_5.1)] (C_NC_within n E S x2 0 400 q_3.2 q_5.1 q_5.2 eq_5) d_NC_seen_12 tw_399 tw_397 tw_398 tw_1 dd_NC_within ⟨Nat.le_of_ble_eq_true rfl, Nat.le_of_ble_eq_true rfl, Nat.le_of_ble_eq_true rfl, Nat.le_of_ble_eq_true rfl⟩ (Nat.le_of_ble_eq_true rfl) rfl rfl rfl rfl ?_
    refine zo_ifneB d_NC_seen_15 rfl 18 rfl (fun c_6 => ?_) (fun c_6 => ?_)
    · rw [if_pos c_6] at h
      refine zi_aload_n 0 d_NC_seen_24 rfl ?_
      obtain ⟨b_7, eb_7, h⟩ := zbind h
      refine zo_getR 28 zkd_10 0 d_NC_seen_25 eb_7 rfl tw_332 rfl ?_
      obtain ⟨v_8, ev_8, h⟩ := zbind h
      refine zo_getI 31 zkd_3 12 d_NC_seen_28 ev_8 rfl tw_92 rfl ?_
      refine zi_bipush 6 d_NC_seen_31 rfl ?_
      refine zi_icmp_lt (tgt := 43) d_NC_seen_33 rfl (fun c_9 => ?_) (fun c_9 => ?_)
      · rw [if_pos c_9] at h
        refine zi_aload_n 0 d_NC_seen_43 rfl ?_
        refine zi_aload_n 0 d_NC_seen_44 rfl ?_
        refine zo_getR 48 zkd_10 0 d_NC_seen_45 eb_7 rfl tw_332 rfl ?_
        refine zi_iload_n 1 d_NC_seen_48 rfl ?_
        refine zi_iload_n 2 d_NC_seen_49 rfl ?_
        obtain ⟨q_10, eq_10, h⟩ := zbind h
        refine zo_virt (k' := 0) (n' := 0) 53 [.int x1, .int x2] [.ref a0] [.int q_10.1, .ref a0] zkd_3 (zgI_s ev_8).1 (C_Ni_addSeen n E S b_7 x1 x2 q_5.2 q_10.1 q_10.2 eq_10) d_NC_seen_50 tw_1021 tw_1018 tw_1019 tw_1020 tw_2 dd_Ni_addSeen ⟨Nat.le_of_ble_eq_true rfl, Nat.le_of_ble_eq_true rfl, Nat.le_of_ble_eq_true rfl, Nat.le_of_ble_eq_true rfl⟩ (Nat.le_of_ble_eq_true rfl) rfl rfl rfl rfl ?_
        obtain ⟨q_11, eq_11, h⟩ := zbind h
        refine zo_virt (k' := 0) (n' := 0) 56 [.int q_10.1] [] [.int q_11.1] zkd_10 (zgR_s eb_7).1 (C_NC_accept n E S a0 q_10.1 q_10.2 q_11.1 q_11.2 eq_11) d_NC_seen_53 tw_456 tw_453 tw_455 ts_2 tw_1 dd_NC_accept ⟨Nat.le_of_ble_eq_true rfl, Nat.le_of_ble_eq_true rfl, Nat.le_of_ble_eq_true rfl, Nat.le_of_ble_eq_true rfl⟩ (Nat.le_of_ble_eq_true rfl) rfl rfl rfl rfl ?_
        cases h
        exact zo_ret d_NC_seen_56 (Nat.le_of_ble_eq_true rfl) (Nat.le_of_ble_eq_true rfl) rfl
      · rw [if_neg c_9] at h
        refine zi_aload_n 0 d_NC_seen_36 rfl ?_
        refine zi_bipush (-5) d_NC_seen_37 rfl ?_
        obtain ⟨q_12, eq_12, h⟩ := zbind h
        refine zo_virt (k' := 0) (n' := 0) 42 [.int (-5)] [] [.int q_12.1] zkd_10 (zgR_s eb_7).1 (C_NC_refuse n E S a0 (-5) q_5.2 q_12.1 q_12.2 eq_12) d_NC_seen_39 tw_448 tw_445 tw_447 ts_1 tw_1 dd_NC_refuse ⟨Nat.le_of_ble_eq_true rfl, Nat.le_of_ble_eq_true rfl, Nat.le_of_ble_eq_true rfl, Nat.le_of_ble_eq_true rfl⟩ (Nat.le_of_ble_eq_true rfl) rfl rfl rfl rfl ?_
        cases h
        exact zo_ret d_NC_seen_42 (Nat.le_of_ble_eq_true rfl) (Nat.le_of_ble_eq_true rfl) rfl
    · rw [if_neg c_6] at h
      refine zi_lo [(0, .ref a0)] [0] rfl ?_
      exact K_NC_seen_b18 n E S a0 q_5.2 r M'  h
theorem C_NC_seen (n : Nat) (E : zE) (S : zS) (a0 : Nat) (x1 : Int32) (x2 : Int32) (M : zH) (r : Int32) (M' : zH) (h : F_NC_seen n E S a0 x1 x2 M = some (r, M')) : zC E Y_NC_seen [.ref a0, .int x1, .int x2] S M (some (.int r), S, M') :=
  zC.of (Or.inl (show plainName "NightColander" = true by decide)) (Nat.le_of_ble_eq_true rfl) (trivial) (K_NC_seen n E S a0 x1 x2 M r M' h)
theorem d_NC_forget_0 : decode (yB Y_NC_forget) 0 = .ok (.aload_n 0, 1) := by decide +kernel
theorem d_NC_forget_1 : decode (yB Y_NC_forget) 1 = .ok (.getfield 12, 3) := by decide +kernel
theorem d_NC_forget_4 : decode (yB Y_NC_forget) 4 = .ok (.getfield 273, 3) := by decide +kernel
theorem d_NC_forget_7 : decode (yB Y_NC_forget) 7 = .ok (.istore_n 1, 1) := by decide +kernel
theorem d_NC_forget_8 : decode (yB Y_NC_forget) 8 = .ok (.aload_n 0, 1) := by decide +kernel
theorem d_NC_forget_9 : decode (yB Y_NC_forget) 9 = .ok (.getfield 12, 3) := by decide +kernel
theorem d_NC_forget_12 : decode (yB Y_NC_forget) 12 = .ok (.iconst 0, 1) := by decide +kernel
theorem d_NC_forget_13 : decode (yB Y_NC_forget) 13 = .ok (.putfield 273, 3) := by decide +kernel
theorem d_NC_forget_16 : decode (yB Y_NC_forget) 16 = .ok (.iload_n 1, 1) := by decide +kernel
theorem d_NC_forget_17 : decode (yB Y_NC_forget) 17 = .ok (.ireturn, 1) := by decide +kernel
def F_NC_forget (n : Nat) (E : zE) (S : zS) (a0 : Nat) (M : zH) : Option (Int32 × zH) :=
  (zgR S a0 10 0).bind fun b_1 =>
  (zgI S M b_1 3 12).bind fun v_2 =>
  (zpI S M b_1 3 12 0).bind fun m_3 =>
  some (v_2, m_3)
theorem K_NC_forget (n : Nat) (E : zE) (S : zS) (a0 : Nat) (M : zH) (r : Int32) (M' : zH)  (h : F_NC_forget n E S a0 M = some (r, M')) : zG E Y_NC_forget (some (.int r), S, M') 0 [(0, .ref a0)] [] S M 0 0 := by
  unfold F_NC_forget at h
  refine zi_aload_n 0 d_NC_forget_0 rfl ?_
  obtain ⟨b_1, eb_1, h⟩ := zbind h
  refine zo_getR 4 zkd_10 0 d_NC_forget_1 eb_1 rfl tw_332 rfl ?_
  obtain ⟨v_2, ev_2, h⟩ := zbind h
  refine zo_getI 7 zkd_3 12 d_NC_forget_4 ev_2 rfl tw_92 rfl ?_
  refine zi_istore_n [(1, .int v_2), (0, .ref a0)] d_NC_forget_7 (by decide) rfl ?_
  refine zi_aload_n 1 d_NC_forget_8 rfl ?_
  refine zo_getR 12 zkd_10 0 d_NC_forget_9 eb_1 rfl tw_332 rfl ?_
  refine zi_iconst 0 d_NC_forget_12 rfl ?_
  obtain ⟨m_3, em_3, h⟩ := zbind h
  refine zo_putI 16 zkd_3 12 d_NC_forget_13 em_3 rfl rfl rfl tw_92 rfl ?_
  refine zi_iload_n 0 d_NC_forget_16 rfl ?_
  cases h
  exact zo_ret d_NC_forget_17 (Nat.le_of_ble_eq_true rfl) (Nat.le_of_ble_eq_true rfl) rfl
theorem C_NC_forget (n : Nat) (E : zE) (S : zS) (a0 : Nat) (M : zH) (r : Int32) (M' : zH) (h : F_NC_forget n E S a0 M = some (r, M')) : zC E Y_NC_forget [.ref a0] S M (some (.int r), S, M') :=
  zC.of (Or.inl (show plainName "NightColander" = true by decide)) (Nat.le_of_ble_eq_true rfl) (trivial) (K_NC_forget n E S a0 M r M' h)
theorem d_Pa_asDecimal_0 : decode (yB Y_Pa_asDecimal) 0 = .ok (.iload_n 0, 1) := by decide +kernel
theorem d_Pa_asDecimal_1 : decode (yB Y_Pa_asDecimal) 1 = .ok (.bipush 9, 2) := by decide +kernel
theorem d_Pa_asDecimal_3 : decode (yB Y_Pa_asDecimal) 3 = .ok (.ishr, 1) := by decide +kernel
theorem d_Pa_asDecimal_4 : decode (yB Y_Pa_asDecimal) 4 = .ok (.bipush 7, 2) := by decide +kernel
theorem d_Pa_asDecimal_6 : decode (yB Y_Pa_asDecimal) 6 = .ok (.iand, 1) := by decide +kernel
theorem d_Pa_asDecimal_7 : decode (yB Y_Pa_asDecimal) 7 = .ok (.sipush 1000, 3) := by decide +kernel
theorem d_Pa_asDecimal_10 : decode (yB Y_Pa_asDecimal) 10 = .ok (.imul, 1) := by decide +kernel
theorem d_Pa_asDecimal_11 : decode (yB Y_Pa_asDecimal) 11 = .ok (.iload_n 0, 1) := by decide +kernel
theorem d_Pa_asDecimal_12 : decode (yB Y_Pa_asDecimal) 12 = .ok (.bipush 6, 2) := by decide +kernel
theorem d_Pa_asDecimal_14 : decode (yB Y_Pa_asDecimal) 14 = .ok (.ishr, 1) := by decide +kernel
theorem d_Pa_asDecimal_15 : decode (yB Y_Pa_asDecimal) 15 = .ok (.bipush 7, 2) := by decide +kernel
theorem d_Pa_asDecimal_17 : decode (yB Y_Pa_asDecimal) 17 = .ok (.iand, 1) := by decide +kernel
theorem d_Pa_asDecimal_18 : decode (yB Y_Pa_asDecimal) 18 = .ok (.bipush 100, 2) := by decide +kernel
theorem d_Pa_asDecimal_20 : decode (yB Y_Pa_asDecimal) 20 = .ok (.imul, 1) := by decide +kernel
theorem d_Pa_asDecimal_21 : decode (yB Y_Pa_asDecimal) 21 = .ok (.iadd, 1) := by decide +kernel
theorem d_Pa_asDecimal_22 : decode (yB Y_Pa_asDecimal) 22 = .ok (.iload_n 0, 1) := by decide +kernel
theorem d_Pa_asDecimal_23 : decode (yB Y_Pa_asDecimal) 23 = .ok (.iconst 3, 1) := by decide +kernel
theorem d_Pa_asDecimal_24 : decode (yB Y_Pa_asDecimal) 24 = .ok (.ishr, 1) := by decide +kernel
theorem d_Pa_asDecimal_25 : decode (yB Y_Pa_asDecimal) 25 = .ok (.bipush 7, 2) := by decide +kernel
theorem d_Pa_asDecimal_27 : decode (yB Y_Pa_asDecimal) 27 = .ok (.iand, 1) := by decide +kernel
theorem d_Pa_asDecimal_28 : decode (yB Y_Pa_asDecimal) 28 = .ok (.bipush 10, 2) := by decide +kernel
theorem d_Pa_asDecimal_30 : decode (yB Y_Pa_asDecimal) 30 = .ok (.imul, 1) := by decide +kernel
theorem d_Pa_asDecimal_31 : decode (yB Y_Pa_asDecimal) 31 = .ok (.iadd, 1) := by decide +kernel
theorem d_Pa_asDecimal_32 : decode (yB Y_Pa_asDecimal) 32 = .ok (.iload_n 0, 1) := by decide +kernel
theorem d_Pa_asDecimal_33 : decode (yB Y_Pa_asDecimal) 33 = .ok (.bipush 7, 2) := by decide +kernel
theorem d_Pa_asDecimal_35 : decode (yB Y_Pa_asDecimal) 35 = .ok (.iand, 1) := by decide +kernel
theorem d_Pa_asDecimal_36 : decode (yB Y_Pa_asDecimal) 36 = .ok (.iadd, 1) := by decide +kernel
theorem d_Pa_asDecimal_37 : decode (yB Y_Pa_asDecimal) 37 = .ok (.ireturn, 1) := by decide +kernel
def F_Pa_asDecimal (n : Nat) (E : zE) (S : zS) (x0 : Int32) (M : zH) : Option (Int32 × zH) :=
  some ((((((x0 >>> ((9 : Int32) &&& (31 : Int32))) &&& (7 : Int32)) * 1000) + (((x0 >>> ((6 : Int32) &&& (31 : Int32))) &&& (7 : Int32)) * 100)) + (((x0 >>> ((3 : Int32) &&& (31 : Int32))) &&& (7 : Int32)) * 10)) + (x0 &&& (7 : Int32)), M)
theorem K_Pa_asDecimal (n : Nat) (E : zE) (S : zS) (x0 : Int32) (M : zH) (r : Int32) (M' : zH)  (h : F_Pa_asDecimal n E S x0 M = some (r, M')) : zG E Y_Pa_asDecimal (some (.int r), S, M') 0 [(0, .int x0)] [] S M 0 0 := by
  unfold F_Pa_asDecimal at h
  refine zi_iload_n 0 d_Pa_asDecimal_0 rfl ?_
  refine zi_bipush 9 d_Pa_asDecimal_1 rfl ?_
  refine zi_ishr d_Pa_asDecimal_3 ?_
  refine zi_bipush 7 d_Pa_asDecimal_4 rfl ?_
  refine zi_iand d_Pa_asDecimal_6 ?_
  refine zi_sipush 1000 d_Pa_asDecimal_7 rfl ?_
  refine zi_imul d_Pa_asDecimal_10 ?_
  refine zi_iload_n 0 d_Pa_asDecimal_11 rfl ?_
  refine zi_bipush 6 d_Pa_asDecimal_12 rfl ?_
  refine zi_ishr d_Pa_asDecimal_14 ?_
  refine zi_bipush 7 d_Pa_asDecimal_15 rfl ?_
  refine zi_iand d_Pa_asDecimal_17 ?_
  refine zi_bipush 100 d_Pa_asDecimal_18 rfl ?_
  refine zi_imul d_Pa_asDecimal_20 ?_
  refine zi_iadd d_Pa_asDecimal_21 ?_
  refine zi_iload_n 0 d_Pa_asDecimal_22 rfl ?_
  refine zi_iconst 3 d_Pa_asDecimal_23 rfl ?_
  refine zi_ishr d_Pa_asDecimal_24 ?_
  refine zi_bipush 7 d_Pa_asDecimal_25 rfl ?_
  refine zi_iand d_Pa_asDecimal_27 ?_
  refine zi_bipush 10 d_Pa_asDecimal_28 rfl ?_
  refine zi_imul d_Pa_asDecimal_30 ?_
  refine zi_iadd d_Pa_asDecimal_31 ?_
  refine zi_iload_n 0 d_Pa_asDecimal_32 rfl ?_
  refine zi_bipush 7 d_Pa_asDecimal_33 rfl ?_
  refine zi_iand d_Pa_asDecimal_35 ?_
  refine zi_iadd d_Pa_asDecimal_36 ?_
  cases h
  exact zo_ret d_Pa_asDecimal_37 (Nat.le_of_ble_eq_true rfl) (Nat.le_of_ble_eq_true rfl) rfl
theorem C_Pa_asDecimal (n : Nat) (E : zE) (S : zS) (x0 : Int32) (M : zH) (r : Int32) (M' : zH) (h : F_Pa_asDecimal n E S x0 M = some (r, M')) : zC E Y_Pa_asDecimal [.int x0] S M (some (.int r), S, M') :=
  zC.of (Or.inl (show plainName "NightColander$Paper" = true by decide)) (Nat.le_of_ble_eq_true rfl) (trivial) (K_Pa_asDecimal n E S x0 M r M' h)
theorem d_Ju_runsAbove_0 : decode (yB Y_Ju_runsAbove) 0 = .ok (.aload_n 1, 1) := by decide +kernel
theorem d_Ju_runsAbove_1 : decode (yB Y_Ju_runsAbove) 1 = .ok (.iload_n 2, 1) := by decide +kernel
theorem d_Ju_runsAbove_2 : decode (yB Y_Ju_runsAbove) 2 = .ok (.iload_n 3, 1) := by decide +kernel
theorem d_Ju_runsAbove_3 : decode (yB Y_Ju_runsAbove) 3 = .ok (.invokevirtual 49, 3) := by decide +kernel
theorem d_Ju_runsAbove_6 : decode (yB Y_Ju_runsAbove) 6 = .ok (.istore 4, 2) := by decide +kernel
theorem d_Ju_runsAbove_8 : decode (yB Y_Ju_runsAbove) 8 = .ok (.aload_n 1, 1) := by decide +kernel
theorem d_Ju_runsAbove_9 : decode (yB Y_Ju_runsAbove) 9 = .ok (.getfield 52, 3) := by decide +kernel
theorem d_Ju_runsAbove_12 : decode (yB Y_Ju_runsAbove) 12 = .ok (.iload_n 2, 1) := by decide +kernel
theorem d_Ju_runsAbove_13 : decode (yB Y_Ju_runsAbove) 13 = .ok (.bipush 8, 2) := by decide +kernel
theorem d_Ju_runsAbove_15 : decode (yB Y_Ju_runsAbove) 15 = .ok (.imul, 1) := by decide +kernel
theorem d_Ju_runsAbove_16 : decode (yB Y_Ju_runsAbove) 16 = .ok (.iload 4, 2) := by decide +kernel
theorem d_Ju_runsAbove_18 : decode (yB Y_Ju_runsAbove) 18 = .ok (.iadd, 1) := by decide +kernel
theorem d_Ju_runsAbove_19 : decode (yB Y_Ju_runsAbove) 19 = .ok (.baload, 1) := by decide +kernel
theorem d_Ju_runsAbove_20 : decode (yB Y_Ju_runsAbove) 20 = .ok (.ifCond .eq 7, 3) := by decide +kernel
theorem d_Ju_runsAbove_23 : decode (yB Y_Ju_runsAbove) 23 = .ok (.iconst 0, 1) := by decide +kernel
theorem d_Ju_runsAbove_24 : decode (yB Y_Ju_runsAbove) 24 = .ok (.goto 11, 3) := by decide +kernel
theorem d_Ju_runsAbove_27 : decode (yB Y_Ju_runsAbove) 27 = .ok (.aload_n 0, 1) := by decide +kernel
theorem d_Ju_runsAbove_28 : decode (yB Y_Ju_runsAbove) 28 = .ok (.aload_n 1, 1) := by decide +kernel
theorem d_Ju_runsAbove_29 : decode (yB Y_Ju_runsAbove) 29 = .ok (.iload_n 2, 1) := by decide +kernel
theorem d_Ju_runsAbove_30 : decode (yB Y_Ju_runsAbove) 30 = .ok (.iload 4, 2) := by decide +kernel
theorem d_Ju_runsAbove_32 : decode (yB Y_Ju_runsAbove) 32 = .ok (.invokevirtual 56, 3) := by decide +kernel
theorem d_Ju_runsAbove_35 : decode (yB Y_Ju_runsAbove) 35 = .ok (.ireturn, 1) := by decide +kernel
def F_Ju_runsAbove (n : Nat) (E : zE) (S : zS) (a0 : Nat) (a1 : Nat) (x2 : Int32) (x3 : Int32) (M : zH) : Option (Int32 × zH) :=
  (zck S a1 3).bind fun u_1 =>
  (F_Ni_holeAbove n E S a1 x2 x3 M).bind fun q_2 =>
  (zgR S a1 3 1).bind fun b_3 =>
  (zldZ S q_2.2 b_3 ((x2 * 8) + q_2.1)).bind fun v_4 =>
  if v_4 = 0 then
    (zck S a0 1).bind fun u_6 =>
    (F_Ju_runsOf n E S a0 a1 x2 q_2.1 q_2.2).bind fun q_7 =>
    some (q_7.1, q_7.2)
  else
    some (0, q_2.2)
theorem K_Ju_runsAbove (n : Nat) (E : zE) (S : zS) (a0 : Nat) (a1 : Nat) (x2 : Int32) (x3 : Int32) (M : zH) (r : Int32) (M' : zH)  (h : F_Ju_runsAbove n E S a0 a1 x2 x3 M = some (r, M')) : zG E Y_Ju_runsAbove (some (.int r), S, M') 0 [(0, .ref a0), (1, .ref a1), (2, .int x2), (3, .int x3)] [] S M 0 0 := by
  unfold F_Ju_runsAbove at h
  refine zi_aload_n 1 d_Ju_runsAbove_0 rfl ?_
  refine zi_iload_n 2 d_Ju_runsAbove_1 rfl ?_
  refine zi_iload_n 3 d_Ju_runsAbove_2 rfl ?_
  obtain ⟨u_1, eu_1, h⟩ := zbind h
  obtain ⟨q_2, eq_2, h⟩ := zbind h
  refine zo_virt (k' := 0) (n' := 0) 6 [.int x2, .int x3] [] [.int q_2.1] zkd_3 (zck_s eu_1) (C_Ni_holeAbove n E S a1 x2 x3 M q_2.1 q_2.2 eq_2) d_Ju_runsAbove_3 tw_516 tw_513 tw_514 tw_515 tw_2 dd_Ni_holeAbove ⟨Nat.le_of_ble_eq_true rfl, Nat.le_of_ble_eq_true rfl, Nat.le_of_ble_eq_true rfl, Nat.le_of_ble_eq_true rfl⟩ (Nat.le_of_ble_eq_true rfl) rfl rfl rfl rfl ?_
  refine zi_istore [(4, .int q_2.1), (0, .ref a0), (1, .ref a1), (2, .int x2), (3, .int x3)] d_Ju_runsAbove_6 (by decide) rfl ?_
  refine zi_aload_n 2 d_Ju_runsAbove_8 rfl ?_
  obtain ⟨b_3, eb_3, h⟩ := zbind h
  refine zo_getR 12 zkd_3 1 d_Ju_runsAbove_9 eb_3 rfl tw_50 rfl ?_
  refine zi_iload_n 3 d_Ju_runsAbove_12 rfl ?_
  refine zi_bipush 8 d_Ju_runsAbove_13 rfl ?_
  refine zi_imul d_Ju_runsAbove_15 ?_
  refine zi_iload 0 d_Ju_runsAbove_16 rfl ?_
  refine zi_iadd d_Ju_runsAbove_18 ?_
  obtain ⟨v_4, ev_4, h⟩ := zbind h
  refine zo_zald 20 d_Ju_runsAbove_19 ev_4 rfl ?_
  refine zi_if_eq (tgt := 27) d_Ju_runsAbove_20 rfl (fun c_5 => ?_) (fun c_5 => ?_)
  · rw [if_pos c_5] at h
    refine zi_aload_n 1 d_Ju_runsAbove_27 rfl ?_
    refine zi_aload_n 2 d_Ju_runsAbove_28 rfl ?_
    refine zi_iload_n 3 d_Ju_runsAbove_29 rfl ?_
    refine zi_iload 0 d_Ju_runsAbove_30 rfl ?_
    obtain ⟨u_6, eu_6, h⟩ := zbind h
    obtain ⟨q_7, eq_7, h⟩ := zbind h
    refine zo_virt (k' := 0) (n' := 0) 35 [.ref a1, .int x2, .int q_2.1] [] [.int q_7.1] zkd_1 (zck_s eu_6) (C_Ju_runsOf n E S a0 a1 x2 q_2.1 q_2.2 q_7.1 q_7.2 eq_7) d_Ju_runsAbove_32 tw_413 tw_517 tw_411 tw_412 tw_8 dd_Ju_runsOf ⟨Nat.le_of_ble_eq_true rfl, Nat.le_of_ble_eq_true rfl, Nat.le_of_ble_eq_true rfl, Nat.le_of_ble_eq_true rfl⟩ (Nat.le_of_ble_eq_true rfl) rfl rfl rfl rfl ?_
    cases h
    exact zo_ret d_Ju_runsAbove_35 (Nat.le_of_ble_eq_true rfl) (Nat.le_of_ble_eq_true rfl) rfl
  · rw [if_neg c_5] at h
    refine zi_iconst 0 d_Ju_runsAbove_23 rfl ?_
    refine zi_goto (tgt := 35) d_Ju_runsAbove_24 rfl ?_
    cases h
    exact zo_ret d_Ju_runsAbove_35 (Nat.le_of_ble_eq_true rfl) (Nat.le_of_ble_eq_true rfl) rfl
theorem C_Ju_runsAbove (n : Nat) (E : zE) (S : zS) (a0 : Nat) (a1 : Nat) (x2 : Int32) (x3 : Int32) (M : zH) (r : Int32) (M' : zH) (h : F_Ju_runsAbove n E S a0 a1 x2 x3 M = some (r, M')) : zC E Y_Ju_runsAbove [.ref a0, .ref a1, .int x2, .int x3] S M (some (.int r), S, M') :=
  zC.of (Or.inl (show plainName "NightColander$Judge" = true by decide)) (Nat.le_of_ble_eq_true rfl) (trivial) (K_Ju_runsAbove n E S a0 a1 x2 x3 M r M' h)
theorem d_Pa_findShares_0 : decode (yB Y_Pa_findShares) 0 = .ok (.aload_n 0, 1) := by decide +kernel
theorem d_Pa_findShares_1 : decode (yB Y_Pa_findShares) 1 = .ok (.getfield 12, 3) := by decide +kernel
theorem d_Pa_findShares_4 : decode (yB Y_Pa_findShares) 4 = .ok (.aload_n 1, 1) := by decide +kernel
theorem d_Pa_findShares_5 : decode (yB Y_Pa_findShares) 5 = .ok (.invokevirtual 53, 3) := by decide +kernel
theorem d_Pa_findShares_8 : decode (yB Y_Pa_findShares) 8 = .ok (.iconst 0, 1) := by decide +kernel
theorem d_Pa_findShares_9 : decode (yB Y_Pa_findShares) 9 = .ok (.istore_n 2, 1) := by decide +kernel
theorem d_Pa_findShares_10 : decode (yB Y_Pa_findShares) 10 = .ok (.iload_n 2, 1) := by decide +kernel
theorem d_Pa_findShares_11 : decode (yB Y_Pa_findShares) 11 = .ok (.bipush 8, 2) := by decide +kernel
theorem d_Pa_findShares_13 : decode (yB Y_Pa_findShares) 13 = .ok (.if_icmp .ge 80, 3) := by decide +kernel
theorem d_Pa_findShares_16 : decode (yB Y_Pa_findShares) 16 = .ok (.aload_n 0, 1) := by decide +kernel
theorem d_Pa_findShares_17 : decode (yB Y_Pa_findShares) 17 = .ok (.getfield 12, 3) := by decide +kernel
theorem d_Pa_findShares_20 : decode (yB Y_Pa_findShares) 20 = .ok (.getfield 106, 3) := by decide +kernel
theorem d_Pa_findShares_23 : decode (yB Y_Pa_findShares) 23 = .ok (.iload_n 2, 1) := by decide +kernel
theorem d_Pa_findShares_24 : decode (yB Y_Pa_findShares) 24 = .ok (.invokestatic 109, 3) := by decide +kernel
theorem d_Pa_findShares_27 : decode (yB Y_Pa_findShares) 27 = .ok (.iconst 0, 1) := by decide +kernel
theorem d_Pa_findShares_28 : decode (yB Y_Pa_findShares) 28 = .ok (.istore_n 3, 1) := by decide +kernel
theorem d_Pa_findShares_29 : decode (yB Y_Pa_findShares) 29 = .ok (.iload_n 3, 1) := by decide +kernel
theorem d_Pa_findShares_30 : decode (yB Y_Pa_findShares) 30 = .ok (.iconst 4, 1) := by decide +kernel
theorem d_Pa_findShares_31 : decode (yB Y_Pa_findShares) 31 = .ok (.if_icmp .ge 56, 3) := by decide +kernel
theorem d_Pa_findShares_34 : decode (yB Y_Pa_findShares) 34 = .ok (.iconst 0, 1) := by decide +kernel
theorem d_Pa_findShares_35 : decode (yB Y_Pa_findShares) 35 = .ok (.istore 4, 2) := by decide +kernel
theorem d_Pa_findShares_37 : decode (yB Y_Pa_findShares) 37 = .ok (.iload 4, 2) := by decide +kernel
theorem d_Pa_findShares_39 : decode (yB Y_Pa_findShares) 39 = .ok (.bipush 8, 2) := by decide +kernel
theorem d_Pa_findShares_41 : decode (yB Y_Pa_findShares) 41 = .ok (.if_icmp .ge 40, 3) := by decide +kernel
theorem d_Pa_findShares_44 : decode (yB Y_Pa_findShares) 44 = .ok (.aload_n 0, 1) := by decide +kernel
theorem d_Pa_findShares_45 : decode (yB Y_Pa_findShares) 45 = .ok (.getfield 18, 3) := by decide +kernel
theorem d_Pa_findShares_48 : decode (yB Y_Pa_findShares) 48 = .ok (.iload_n 3, 1) := by decide +kernel
theorem d_Pa_findShares_49 : decode (yB Y_Pa_findShares) 49 = .ok (.bipush 8, 2) := by decide +kernel
theorem d_Pa_findShares_51 : decode (yB Y_Pa_findShares) 51 = .ok (.imul, 1) := by decide +kernel
theorem d_Pa_findShares_52 : decode (yB Y_Pa_findShares) 52 = .ok (.iload_n 2, 1) := by decide +kernel
theorem d_Pa_findShares_53 : decode (yB Y_Pa_findShares) 53 = .ok (.iadd, 1) := by decide +kernel
theorem d_Pa_findShares_54 : decode (yB Y_Pa_findShares) 54 = .ok (.bipush 8, 2) := by decide +kernel
theorem d_Pa_findShares_56 : decode (yB Y_Pa_findShares) 56 = .ok (.imul, 1) := by decide +kernel
theorem d_Pa_findShares_57 : decode (yB Y_Pa_findShares) 57 = .ok (.iload 4, 2) := by decide +kernel
theorem d_Pa_findShares_59 : decode (yB Y_Pa_findShares) 59 = .ok (.iadd, 1) := by decide +kernel
theorem d_Pa_findShares_60 : decode (yB Y_Pa_findShares) 60 = .ok (.aload_n 0, 1) := by decide +kernel
theorem d_Pa_findShares_61 : decode (yB Y_Pa_findShares) 61 = .ok (.getfield 45, 3) := by decide +kernel
theorem d_Pa_findShares_64 : decode (yB Y_Pa_findShares) 64 = .ok (.aload_n 0, 1) := by decide +kernel
theorem d_Pa_findShares_65 : decode (yB Y_Pa_findShares) 65 = .ok (.getfield 12, 3) := by decide +kernel
theorem d_Pa_findShares_68 : decode (yB Y_Pa_findShares) 68 = .ok (.iload_n 3, 1) := by decide +kernel
theorem d_Pa_findShares_69 : decode (yB Y_Pa_findShares) 69 = .ok (.iload 4, 2) := by decide +kernel
theorem d_Pa_findShares_71 : decode (yB Y_Pa_findShares) 71 = .ok (.invokevirtual 115, 3) := by decide +kernel
theorem d_Pa_findShares_74 : decode (yB Y_Pa_findShares) 74 = .ok (.iastore, 1) := by decide +kernel
theorem d_Pa_findShares_75 : decode (yB Y_Pa_findShares) 75 = .ok (.iinc 4 1, 3) := by decide +kernel
theorem d_Pa_findShares_78 : decode (yB Y_Pa_findShares) 78 = .ok (.goto (-41), 3) := by decide +kernel
theorem d_Pa_findShares_81 : decode (yB Y_Pa_findShares) 81 = .ok (.iinc 3 1, 3) := by decide +kernel
theorem d_Pa_findShares_84 : decode (yB Y_Pa_findShares) 84 = .ok (.goto (-55), 3) := by decide +kernel
theorem d_Pa_findShares_87 : decode (yB Y_Pa_findShares) 87 = .ok (.iinc 2 1, 3) := by decide +kernel
theorem d_Pa_findShares_90 : decode (yB Y_Pa_findShares) 90 = .ok (.goto (-80), 3) := by decide +kernel
theorem d_Pa_findShares_93 : decode (yB Y_Pa_findShares) 93 = .ok (.return_, 1) := by decide +kernel
def F_Pa_findShares_L37 (n : Nat) (E : zE) (S : zS) (r10 : Nat × Int32 × zH → Option (zH)) (r29 : Nat × Int32 × Int32 × zH → Option (zH)) (r37 : Nat × Int32 × Int32 × Int32 × zH → Option (zH)) (a0 : Nat) (x2 : Int32) (x3 : Int32) (x4 : Int32) (M : zH) : Option (zH) :=
  if 8 ≤ x4 then
    r29 (a0, x2, x3 + 1, M)
  else
    (zgR S a0 4 2).bind fun b_2 =>
    (zgR S a0 4 0).bind fun b_3 =>
    (zgR S a0 4 1).bind fun b_4 =>
    (zck S b_3 1).bind fun u_5 =>
    (F_Ju_runsAbove n E S b_3 b_4 x3 x4 M).bind fun q_6 =>
    (zstI S q_6.2 b_2 ((((x3 * 8) + x2) * 8) + x4) q_6.1).bind fun m_7 =>
    r37 (a0, x2, x3, x4 + 1, m_7)
def F_Pa_findShares_b37 (n : Nat) (E : zE) (S : zS) (r10 : Nat × Int32 × zH → Option (zH)) (r29 : Nat × Int32 × Int32 × zH → Option (zH)) : Nat × Int32 × Int32 × Int32 × zH → Option (zH) := zfix (fun r37 s => F_Pa_findShares_L37 n E S r10 r29 r37 s.1 s.2.1 s.2.2.1 s.2.2.2.1 s.2.2.2.2) n
def F_Pa_findShares_L29 (n : Nat) (E : zE) (S : zS) (r10 : Nat × Int32 × zH → Option (zH)) (r29 : Nat × Int32 × Int32 × zH → Option (zH)) (a0 : Nat) (x2 : Int32) (x3 : Int32) (M : zH) : Option (zH) :=
  if 4 ≤ x3 then
    r10 (a0, x2 + 1, M)
  else
    F_Pa_findShares_b37 n E S r10 r29 (a0, x2, x3, 0, M)
def F_Pa_findShares_b29 (n : Nat) (E : zE) (S : zS) (r10 : Nat × Int32 × zH → Option (zH)) : Nat × Int32 × Int32 × zH → Option (zH) := zfix (fun r29 s => F_Pa_findShares_L29 n E S r10 r29 s.1 s.2.1 s.2.2.1 s.2.2.2) n
def F_Pa_findShares_L10 (n : Nat) (E : zE) (S : zS) (r10 : Nat × Int32 × zH → Option (zH)) (a0 : Nat) (x2 : Int32) (M : zH) : Option (zH) :=
  if 8 ≤ x2 then
    some (M)
  else
    (zgR S a0 4 1).bind fun b_10 =>
    (zgR S b_10 3 2).bind fun b_11 =>
    (F_Ja_fillI n E S b_11 x2 M).bind fun q_12 =>
    F_Pa_findShares_b29 n E S r10 (a0, x2, 0, q_12)
def F_Pa_findShares_b10 (n : Nat) (E : zE) (S : zS) : Nat × Int32 × zH → Option (zH) := zfix (fun r10 s => F_Pa_findShares_L10 n E S r10 s.1 s.2.1 s.2.2) n
def F_Pa_findShares (n : Nat) (E : zE) (S : zS) (a0 : Nat) (a1 : Nat) (M : zH) : Option (zH) :=
  (zgR S a0 4 1).bind fun b_13 =>
  (zck S b_13 3).bind fun u_14 =>
  (F_Ni_copyFrom n E S b_13 a1 M).bind fun q_15 =>
  F_Pa_findShares_b10 n E S (a0, 0, q_15)
theorem K_Pa_findShares_L37 (n : Nat) (E : zE) (S : zS) (r10 : Nat × Int32 × zH → Option (zH)) (r29 : Nat × Int32 × Int32 × zH → Option (zH)) (r37 : Nat × Int32 × Int32 × Int32 × zH → Option (zH)) (a0 : Nat) (x2 : Int32) (x3 : Int32) (x4 : Int32) (M : zH) (M' : zH) (hr10 : ∀ (a0 : Nat) (x2 : Int32) (M : zH), r10 (a0, x2, M) = some M' → zG E Y_Pa_findShares (none, S, M') 10 [(0, .ref a0), (2, .int x2)] [] S M 0 0) (hr29 : ∀ (a0 : Nat) (x2 : Int32) (x3 : Int32) (M : zH), r29 (a0, x2, x3, M) = some M' → zG E Y_Pa_findShares (none, S, M') 29 [(0, .ref a0), (2, .int x2), (3, .int x3)] [] S M 0 0) (hr37 : ∀ (a0 : Nat) (x2 : Int32) (x3 : Int32) (x4 : Int32) (M : zH), r37 (a0, x2, x3, x4, M) = some M' → zG E Y_Pa_findShares (none, S, M') 37 [(0, .ref a0), (2, .int x2), (3, .int x3), (4, .int x4)] [] S M 0 0) (h : F_Pa_findShares_L37 n E S r10 r29 r37 a0 x2 x3 x4 M = some M') : zG E Y_Pa_findShares (none, S, M') 37 [(0, .ref a0), (2, .int x2), (3, .int x3), (4, .int x4)] [] S M 0 0 := by
  unfold F_Pa_findShares_L37 at h
  refine zi_iload 3 d_Pa_findShares_37 rfl ?_
  refine zi_bipush 8 d_Pa_findShares_39 rfl ?_
  refine zi_icmp_ge (tgt := 81) d_Pa_findShares_41 rfl (fun c_1 => ?_) (fun c_1 => ?_)
  · rw [if_pos c_1] at h
    refine zi_iinc 2 (x3 + 1) [(3, .int (x3 + 1)), (0, .ref a0), (2, .int x2), (4, .int x4)] d_Pa_findShares_81 rfl rfl (by decide) rfl ?_
    refine zi_goto (tgt := 29) d_Pa_findShares_84 rfl ?_
    refine zi_lo [(0, .ref a0), (2, .int x2), (3, .int (x3 + 1))] [1, 2, 0] rfl ?_
    exact hr29 a0 x2 (x3 + 1) M h
  · rw [if_neg c_1] at h
    refine zi_aload_n 0 d_Pa_findShares_44 rfl ?_
    obtain ⟨b_2, eb_2, h⟩ := zbind h
    refine zo_getR 48 zkd_4 2 d_Pa_findShares_45 eb_2 rfl tw_300 rfl ?_
    refine zi_iload_n 2 d_Pa_findShares_48 rfl ?_
    refine zi_bipush 8 d_Pa_findShares_49 rfl ?_
    refine zi_imul d_Pa_findShares_51 ?_
    refine zi_iload_n 1 d_Pa_findShares_52 rfl ?_
    refine zi_iadd d_Pa_findShares_53 ?_
    refine zi_bipush 8 d_Pa_findShares_54 rfl ?_
    refine zi_imul d_Pa_findShares_56 ?_
    refine zi_iload 3 d_Pa_findShares_57 rfl ?_
    refine zi_iadd d_Pa_findShares_59 ?_
    refine zi_aload_n 0 d_Pa_findShares_60 rfl ?_
    obtain ⟨b_3, eb_3, h⟩ := zbind h
    refine zo_getR 64 zkd_4 0 d_Pa_findShares_61 eb_3 rfl tw_298 rfl ?_
    refine zi_aload_n 0 d_Pa_findShares_64 rfl ?_
    obtain ⟨b_4, eb_4, h⟩ := zbind h
    refine zo_getR 68 zkd_4 1 d_Pa_findShares_65 eb_4 rfl tw_299 rfl ?_
    refine zi_iload_n 2 d_Pa_findShares_68 rfl ?_
    refine zi_iload 3 d_Pa_findShares_69 rfl ?_
    obtain ⟨u_5, eu_5, h⟩ := zbind h
    obtain ⟨q_6, eq_6, h⟩ := zbind h
    refine zo_virt (k' := 0) (n' := 0) 74 [.ref b_4, .int x3, .int x4] [.int ((((x3 * 8) + x2) * 8) + x4), .ref b_2] [.int q_6.1, .int ((((x3 * 8) + x2) * 8) + x4), .ref b_2] zkd_1 (zck_s eu_5) (C_Ju_runsAbove n E S b_3 b_4 x3 x4 M q_6.1 q_6.2 eq_6) d_Pa_findShares_71 tw_1042 tw_1039 tw_1040 tw_1041 tw_8 dd_Ju_runsAbove ⟨Nat.le_of_ble_eq_true rfl, Nat.le_of_ble_eq_true rfl, Nat.le_of_ble_eq_true rfl, Nat.le_of_ble_eq_true rfl⟩ (Nat.le_of_ble_eq_true rfl) rfl rfl rfl rfl ?_
    obtain ⟨m_7, em_7, h⟩ := zbind h
    refine zo_iast 75 d_Pa_findShares_74 em_7 rfl ?_
    refine zi_iinc 3 (x4 + 1) [(4, .int (x4 + 1)), (0, .ref a0), (2, .int x2), (3, .int x3)] d_Pa_findShares_75 rfl rfl (by decide) rfl ?_
    refine zi_goto (tgt := 37) d_Pa_findShares_78 rfl ?_
    refine zi_lo [(0, .ref a0), (2, .int x2), (3, .int x3), (4, .int (x4 + 1))] [1, 2, 3, 0] rfl ?_
    exact hr37 a0 x2 x3 (x4 + 1) m_7 h
theorem K_Pa_findShares_b37 (n : Nat) (E : zE) (S : zS) (r10 : Nat × Int32 × zH → Option (zH)) (r29 : Nat × Int32 × Int32 × zH → Option (zH)) (a0 : Nat) (x2 : Int32) (x3 : Int32) (x4 : Int32) (M : zH) (M' : zH) (hr10 : ∀ (a0 : Nat) (x2 : Int32) (M : zH), r10 (a0, x2, M) = some M' → zG E Y_Pa_findShares (none, S, M') 10 [(0, .ref a0), (2, .int x2)] [] S M 0 0) (hr29 : ∀ (a0 : Nat) (x2 : Int32) (x3 : Int32) (M : zH), r29 (a0, x2, x3, M) = some M' → zG E Y_Pa_findShares (none, S, M') 29 [(0, .ref a0), (2, .int x2), (3, .int x3)] [] S M 0 0) (h : F_Pa_findShares_b37 n E S r10 r29 (a0, x2, x3, x4, M) = some M') : zG E Y_Pa_findShares (none, S, M') 37 [(0, .ref a0), (2, .int x2), (3, .int x3), (4, .int x4)] [] S M 0 0 := by
  have key : ∀ (k : Nat) (a0 : Nat) (x2 : Int32) (x3 : Int32) (x4 : Int32) (M : zH), zfix (fun r37 s => F_Pa_findShares_L37 n E S r10 r29 r37 s.1 s.2.1 s.2.2.1 s.2.2.2.1 s.2.2.2.2) k (a0, x2, x3, x4, M) = some M' → zG E Y_Pa_findShares (none, S, M') 37 [(0, .ref a0), (2, .int x2), (3, .int x3), (4, .int x4)] [] S M 0 0 := by
    intro k
    induction k with
    | zero => intro a0 x2 x3 x4 M h; cases h
    | succ k ih => intro a0 x2 x3 x4 M h; exact K_Pa_findShares_L37 n E S r10 r29 _ a0 x2 x3 x4 M M' hr10 hr29 (fun a0 x2 x3 x4 M h => ih a0 x2 x3 x4 M h) h
  exact key n a0 x2 x3 x4 M h
theorem K_Pa_findShares_L29 (n : Nat) (E : zE) (S : zS) (r10 : Nat × Int32 × zH → Option (zH)) (r29 : Nat × Int32 × Int32 × zH → Option (zH)) (a0 : Nat) (x2 : Int32) (x3 : Int32) (M : zH) (M' : zH) (hr10 : ∀ (a0 : Nat) (x2 : Int32) (M : zH), r10 (a0, x2, M) = some M' → zG E Y_Pa_findShares (none, S, M') 10 [(0, .ref a0), (2, .int x2)] [] S M 0 0) (hr29 : ∀ (a0 : Nat) (x2 : Int32) (x3 : Int32) (M : zH), r29 (a0, x2, x3, M) = some M' → zG E Y_Pa_findShares (none, S, M') 29 [(0, .ref a0), (2, .int x2), (3, .int x3)] [] S M 0 0) (h : F_Pa_findShares_L29 n E S r10 r29 a0 x2 x3 M = some M') : zG E Y_Pa_findShares (none, S, M') 29 [(0, .ref a0), (2, .int x2), (3, .int x3)] [] S M 0 0 := by
  unfold F_Pa_findShares_L29 at h
  refine zi_iload_n 2 d_Pa_findShares_29 rfl ?_
  refine zi_iconst 4 d_Pa_findShares_30 rfl ?_
  refine zi_icmp_ge (tgt := 87) d_Pa_findShares_31 rfl (fun c_8 => ?_) (fun c_8 => ?_)
  · rw [if_pos c_8] at h
    refine zi_iinc 1 (x2 + 1) [(2, .int (x2 + 1)), (0, .ref a0), (3, .int x3)] d_Pa_findShares_87 rfl rfl (by decide) rfl ?_
    refine zi_goto (tgt := 10) d_Pa_findShares_90 rfl ?_
    refine zi_lo [(0, .ref a0), (2, .int (x2 + 1))] [1, 0] rfl ?_
    exact hr10 a0 (x2 + 1) M h
  · rw [if_neg c_8] at h
    refine zi_iconst 0 d_Pa_findShares_34 rfl ?_
    refine zi_istore [(4, .int 0), (0, .ref a0), (2, .int x2), (3, .int x3)] d_Pa_findShares_35 (by decide) rfl ?_
    refine zi_lo [(0, .ref a0), (2, .int x2), (3, .int x3), (4, .int 0)] [1, 2, 3, 0] rfl ?_
    exact K_Pa_findShares_b37 n E S r10 r29 a0 x2 x3 0 M M' hr10 hr29 h
theorem K_Pa_findShares_b29 (n : Nat) (E : zE) (S : zS) (r10 : Nat × Int32 × zH → Option (zH)) (a0 : Nat) (x2 : Int32) (x3 : Int32) (M : zH) (M' : zH) (hr10 : ∀ (a0 : Nat) (x2 : Int32) (M : zH), r10 (a0, x2, M) = some M' → zG E Y_Pa_findShares (none, S, M') 10 [(0, .ref a0), (2, .int x2)] [] S M 0 0) (h : F_Pa_findShares_b29 n E S r10 (a0, x2, x3, M) = some M') : zG E Y_Pa_findShares (none, S, M') 29 [(0, .ref a0), (2, .int x2), (3, .int x3)] [] S M 0 0 := by
  have key : ∀ (k : Nat) (a0 : Nat) (x2 : Int32) (x3 : Int32) (M : zH), zfix (fun r29 s => F_Pa_findShares_L29 n E S r10 r29 s.1 s.2.1 s.2.2.1 s.2.2.2) k (a0, x2, x3, M) = some M' → zG E Y_Pa_findShares (none, S, M') 29 [(0, .ref a0), (2, .int x2), (3, .int x3)] [] S M 0 0 := by
    intro k
    induction k with
    | zero => intro a0 x2 x3 M h; cases h
    | succ k ih => intro a0 x2 x3 M h; exact K_Pa_findShares_L29 n E S r10 _ a0 x2 x3 M M' hr10 (fun a0 x2 x3 M h => ih a0 x2 x3 M h) h
  exact key n a0 x2 x3 M h
theorem K_Pa_findShares_L10 (n : Nat) (E : zE) (S : zS) (r10 : Nat × Int32 × zH → Option (zH)) (a0 : Nat) (x2 : Int32) (M : zH) (M' : zH) (hr10 : ∀ (a0 : Nat) (x2 : Int32) (M : zH), r10 (a0, x2, M) = some M' → zG E Y_Pa_findShares (none, S, M') 10 [(0, .ref a0), (2, .int x2)] [] S M 0 0) (h : F_Pa_findShares_L10 n E S r10 a0 x2 M = some M') : zG E Y_Pa_findShares (none, S, M') 10 [(0, .ref a0), (2, .int x2)] [] S M 0 0 := by
  unfold F_Pa_findShares_L10 at h
  refine zi_iload_n 1 d_Pa_findShares_10 rfl ?_
  refine zi_bipush 8 d_Pa_findShares_11 rfl ?_
  refine zi_icmp_ge (tgt := 93) d_Pa_findShares_13 rfl (fun c_9 => ?_) (fun c_9 => ?_)
  · rw [if_pos c_9] at h
    cases h
    exact zo_ret d_Pa_findShares_93 (Nat.le_of_ble_eq_true rfl) (Nat.le_of_ble_eq_true rfl) rfl
  · rw [if_neg c_9] at h
    refine zi_aload_n 0 d_Pa_findShares_16 rfl ?_
    obtain ⟨b_10, eb_10, h⟩ := zbind h
    refine zo_getR 20 zkd_4 1 d_Pa_findShares_17 eb_10 rfl tw_299 rfl ?_
    obtain ⟨b_11, eb_11, h⟩ := zbind h
    refine zo_getR 23 zkd_3 2 d_Pa_findShares_20 eb_11 rfl tw_55 rfl ?_
    refine zi_iload_n 1 d_Pa_findShares_23 rfl ?_
    obtain ⟨q_12, eq_12, h⟩ := zbind h
    refine zo_stat (k' := 0) (n' := 0) 27 [.ref b_11, .int x2] [] [] (C_Ja_fillI n E S b_11 x2 M q_12 eq_12) d_Pa_findShares_24 tw_40 tw_1038 tw_39 tw_3 dd_Ja_fillI ⟨Nat.le_of_ble_eq_true rfl, Nat.le_of_ble_eq_true rfl, Nat.le_of_ble_eq_true rfl, Nat.le_of_ble_eq_true rfl⟩ (Nat.le_of_ble_eq_true rfl) rfl rfl rfl rfl ?_
    refine zi_iconst 0 d_Pa_findShares_27 rfl ?_
    refine zi_istore_n [(3, .int 0), (0, .ref a0), (2, .int x2)] d_Pa_findShares_28 (by decide) rfl ?_
    refine zi_lo [(0, .ref a0), (2, .int x2), (3, .int 0)] [1, 2, 0] rfl ?_
    exact K_Pa_findShares_b29 n E S r10 a0 x2 0 q_12 M' hr10 h
theorem K_Pa_findShares_b10 (n : Nat) (E : zE) (S : zS) (a0 : Nat) (x2 : Int32) (M : zH) (M' : zH)  (h : F_Pa_findShares_b10 n E S (a0, x2, M) = some M') : zG E Y_Pa_findShares (none, S, M') 10 [(0, .ref a0), (2, .int x2)] [] S M 0 0 := by
  have key : ∀ (k : Nat) (a0 : Nat) (x2 : Int32) (M : zH), zfix (fun r10 s => F_Pa_findShares_L10 n E S r10 s.1 s.2.1 s.2.2) k (a0, x2, M) = some M' → zG E Y_Pa_findShares (none, S, M') 10 [(0, .ref a0), (2, .int x2)] [] S M 0 0 := by
    intro k
    induction k with
    | zero => intro a0 x2 M h; cases h
    | succ k ih => intro a0 x2 M h; exact K_Pa_findShares_L10 n E S _ a0 x2 M M'  (fun a0 x2 M h => ih a0 x2 M h) h
  exact key n a0 x2 M h
theorem K_Pa_findShares (n : Nat) (E : zE) (S : zS) (a0 : Nat) (a1 : Nat) (M : zH) (M' : zH)  (h : F_Pa_findShares n E S a0 a1 M = some M') : zG E Y_Pa_findShares (none, S, M') 0 [(0, .ref a0), (1, .ref a1)] [] S M 0 0 := by
  unfold F_Pa_findShares at h
  refine zi_aload_n 0 d_Pa_findShares_0 rfl ?_
  obtain ⟨b_13, eb_13, h⟩ := zbind h
  refine zo_getR 4 zkd_4 1 d_Pa_findShares_1 eb_13 rfl tw_299 rfl ?_
  refine zi_aload_n 1 d_Pa_findShares_4 rfl ?_
  obtain ⟨u_14, eu_14, h⟩ := zbind h
  obtain ⟨q_15, eq_15, h⟩ := zbind h
  refine zo_virt (k' := 0) (n' := 0) 8 [.ref a1] [] [] zkd_3 (zck_s eu_14) (C_Ni_copyFrom n E S b_13 a1 M q_15 eq_15) d_Pa_findShares_5 tw_865 tw_982 tw_863 tw_864 tw_2 dd_Ni_copyFrom ⟨Nat.le_of_ble_eq_true rfl, Nat.le_of_ble_eq_true rfl, Nat.le_of_ble_eq_true rfl, Nat.le_of_ble_eq_true rfl⟩ (Nat.le_of_ble_eq_true rfl) rfl rfl rfl rfl ?_
  refine zi_iconst 0 d_Pa_findShares_8 rfl ?_
  refine zi_istore_n [(2, .int 0), (0, .ref a0), (1, .ref a1)] d_Pa_findShares_9 (by decide) rfl ?_
  refine zi_lo [(0, .ref a0), (2, .int 0)] [1, 0] rfl ?_
  exact K_Pa_findShares_b10 n E S a0 0 q_15 M'  h
theorem C_Pa_findShares (n : Nat) (E : zE) (S : zS) (a0 : Nat) (a1 : Nat) (M : zH) (M' : zH) (h : F_Pa_findShares n E S a0 a1 M = some M') : zC E Y_Pa_findShares [.ref a0, .ref a1] S M (none, S, M') :=
  zC.of (Or.inl (show plainName "NightColander$Paper" = true by decide)) (Nat.le_of_ble_eq_true rfl) (trivial) (K_Pa_findShares n E S a0 a1 M M' h)
theorem d_Pa_threadsByThree_0 : decode (yB Y_Pa_threadsByThree) 0 = .ok (.aload_n 0, 1) := by decide +kernel
theorem d_Pa_threadsByThree_1 : decode (yB Y_Pa_threadsByThree) 1 = .ok (.getfield 18, 3) := by decide +kernel
theorem d_Pa_threadsByThree_4 : decode (yB Y_Pa_threadsByThree) 4 = .ok (.iload_n 1, 1) := by decide +kernel
theorem d_Pa_threadsByThree_5 : decode (yB Y_Pa_threadsByThree) 5 = .ok (.bipush 6, 2) := by decide +kernel
theorem d_Pa_threadsByThree_7 : decode (yB Y_Pa_threadsByThree) 7 = .ok (.ishr, 1) := by decide +kernel
theorem d_Pa_threadsByThree_8 : decode (yB Y_Pa_threadsByThree) 8 = .ok (.bipush 7, 2) := by decide +kernel
theorem d_Pa_threadsByThree_10 : decode (yB Y_Pa_threadsByThree) 10 = .ok (.iand, 1) := by decide +kernel
theorem d_Pa_threadsByThree_11 : decode (yB Y_Pa_threadsByThree) 11 = .ok (.bipush 8, 2) := by decide +kernel
theorem d_Pa_threadsByThree_13 : decode (yB Y_Pa_threadsByThree) 13 = .ok (.imul, 1) := by decide +kernel
theorem d_Pa_threadsByThree_14 : decode (yB Y_Pa_threadsByThree) 14 = .ok (.iload_n 2, 1) := by decide +kernel
theorem d_Pa_threadsByThree_15 : decode (yB Y_Pa_threadsByThree) 15 = .ok (.iadd, 1) := by decide +kernel
theorem d_Pa_threadsByThree_16 : decode (yB Y_Pa_threadsByThree) 16 = .ok (.iaload, 1) := by decide +kernel
theorem d_Pa_threadsByThree_17 : decode (yB Y_Pa_threadsByThree) 17 = .ok (.aload_n 0, 1) := by decide +kernel
theorem d_Pa_threadsByThree_18 : decode (yB Y_Pa_threadsByThree) 18 = .ok (.getfield 18, 3) := by decide +kernel
theorem d_Pa_threadsByThree_21 : decode (yB Y_Pa_threadsByThree) 21 = .ok (.bipush 8, 2) := by decide +kernel
theorem d_Pa_threadsByThree_23 : decode (yB Y_Pa_threadsByThree) 23 = .ok (.iload_n 1, 1) := by decide +kernel
theorem d_Pa_threadsByThree_24 : decode (yB Y_Pa_threadsByThree) 24 = .ok (.iconst 3, 1) := by decide +kernel
theorem d_Pa_threadsByThree_25 : decode (yB Y_Pa_threadsByThree) 25 = .ok (.ishr, 1) := by decide +kernel
theorem d_Pa_threadsByThree_26 : decode (yB Y_Pa_threadsByThree) 26 = .ok (.bipush 7, 2) := by decide +kernel
theorem d_Pa_threadsByThree_28 : decode (yB Y_Pa_threadsByThree) 28 = .ok (.iand, 1) := by decide +kernel
theorem d_Pa_threadsByThree_29 : decode (yB Y_Pa_threadsByThree) 29 = .ok (.iadd, 1) := by decide +kernel
theorem d_Pa_threadsByThree_30 : decode (yB Y_Pa_threadsByThree) 30 = .ok (.bipush 8, 2) := by decide +kernel
theorem d_Pa_threadsByThree_32 : decode (yB Y_Pa_threadsByThree) 32 = .ok (.imul, 1) := by decide +kernel
theorem d_Pa_threadsByThree_33 : decode (yB Y_Pa_threadsByThree) 33 = .ok (.iload_n 2, 1) := by decide +kernel
theorem d_Pa_threadsByThree_34 : decode (yB Y_Pa_threadsByThree) 34 = .ok (.iadd, 1) := by decide +kernel
theorem d_Pa_threadsByThree_35 : decode (yB Y_Pa_threadsByThree) 35 = .ok (.iaload, 1) := by decide +kernel
theorem d_Pa_threadsByThree_36 : decode (yB Y_Pa_threadsByThree) 36 = .ok (.iadd, 1) := by decide +kernel
theorem d_Pa_threadsByThree_37 : decode (yB Y_Pa_threadsByThree) 37 = .ok (.aload_n 0, 1) := by decide +kernel
theorem d_Pa_threadsByThree_38 : decode (yB Y_Pa_threadsByThree) 38 = .ok (.getfield 18, 3) := by decide +kernel
theorem d_Pa_threadsByThree_41 : decode (yB Y_Pa_threadsByThree) 41 = .ok (.bipush 16, 2) := by decide +kernel
theorem d_Pa_threadsByThree_43 : decode (yB Y_Pa_threadsByThree) 43 = .ok (.iload_n 1, 1) := by decide +kernel
theorem d_Pa_threadsByThree_44 : decode (yB Y_Pa_threadsByThree) 44 = .ok (.bipush 7, 2) := by decide +kernel
theorem d_Pa_threadsByThree_46 : decode (yB Y_Pa_threadsByThree) 46 = .ok (.iand, 1) := by decide +kernel
theorem d_Pa_threadsByThree_47 : decode (yB Y_Pa_threadsByThree) 47 = .ok (.iadd, 1) := by decide +kernel
theorem d_Pa_threadsByThree_48 : decode (yB Y_Pa_threadsByThree) 48 = .ok (.bipush 8, 2) := by decide +kernel
theorem d_Pa_threadsByThree_50 : decode (yB Y_Pa_threadsByThree) 50 = .ok (.imul, 1) := by decide +kernel
theorem d_Pa_threadsByThree_51 : decode (yB Y_Pa_threadsByThree) 51 = .ok (.iload_n 2, 1) := by decide +kernel
theorem d_Pa_threadsByThree_52 : decode (yB Y_Pa_threadsByThree) 52 = .ok (.iadd, 1) := by decide +kernel
theorem d_Pa_threadsByThree_53 : decode (yB Y_Pa_threadsByThree) 53 = .ok (.iaload, 1) := by decide +kernel
theorem d_Pa_threadsByThree_54 : decode (yB Y_Pa_threadsByThree) 54 = .ok (.iadd, 1) := by decide +kernel
theorem d_Pa_threadsByThree_55 : decode (yB Y_Pa_threadsByThree) 55 = .ok (.ireturn, 1) := by decide +kernel
def F_Pa_threadsByThree (n : Nat) (E : zE) (S : zS) (a0 : Nat) (x1 : Int32) (x2 : Int32) (M : zH) : Option (Int32 × zH) :=
  (zgR S a0 4 2).bind fun b_1 =>
  (zldI S M b_1 ((((x1 >>> ((6 : Int32) &&& (31 : Int32))) &&& (7 : Int32)) * 8) + x2)).bind fun v_2 =>
  (zldI S M b_1 (((8 + ((x1 >>> ((3 : Int32) &&& (31 : Int32))) &&& (7 : Int32))) * 8) + x2)).bind fun v_3 =>
  (zldI S M b_1 (((16 + (x1 &&& (7 : Int32))) * 8) + x2)).bind fun v_4 =>
  some ((v_2 + v_3) + v_4, M)
theorem K_Pa_threadsByThree (n : Nat) (E : zE) (S : zS) (a0 : Nat) (x1 : Int32) (x2 : Int32) (M : zH) (r : Int32) (M' : zH)  (h : F_Pa_threadsByThree n E S a0 x1 x2 M = some (r, M')) : zG E Y_Pa_threadsByThree (some (.int r), S, M') 0 [(0, .ref a0), (1, .int x1), (2, .int x2)] [] S M 0 0 := by
  unfold F_Pa_threadsByThree at h
  refine zi_aload_n 0 d_Pa_threadsByThree_0 rfl ?_
  obtain ⟨b_1, eb_1, h⟩ := zbind h
  refine zo_getR 4 zkd_4 2 d_Pa_threadsByThree_1 eb_1 rfl tw_300 rfl ?_
  refine zi_iload_n 1 d_Pa_threadsByThree_4 rfl ?_
  refine zi_bipush 6 d_Pa_threadsByThree_5 rfl ?_
  refine zi_ishr d_Pa_threadsByThree_7 ?_
  refine zi_bipush 7 d_Pa_threadsByThree_8 rfl ?_
  refine zi_iand d_Pa_threadsByThree_10 ?_
  refine zi_bipush 8 d_Pa_threadsByThree_11 rfl ?_
  refine zi_imul d_Pa_threadsByThree_13 ?_
  refine zi_iload_n 2 d_Pa_threadsByThree_14 rfl ?_
  refine zi_iadd d_Pa_threadsByThree_15 ?_
  obtain ⟨v_2, ev_2, h⟩ := zbind h
  refine zo_iald 17 d_Pa_threadsByThree_16 ev_2 rfl ?_
  refine zi_aload_n 0 d_Pa_threadsByThree_17 rfl ?_
  refine zo_getR 21 zkd_4 2 d_Pa_threadsByThree_18 eb_1 rfl tw_300 rfl ?_
  refine zi_bipush 8 d_Pa_threadsByThree_21 rfl ?_
  refine zi_iload_n 1 d_Pa_threadsByThree_23 rfl ?_
  refine zi_iconst 3 d_Pa_threadsByThree_24 rfl ?_
  refine zi_ishr d_Pa_threadsByThree_25 ?_
  refine zi_bipush 7 d_Pa_threadsByThree_26 rfl ?_
  refine zi_iand d_Pa_threadsByThree_28 ?_
  refine zi_iadd d_Pa_threadsByThree_29 ?_
  refine zi_bipush 8 d_Pa_threadsByThree_30 rfl ?_
  refine zi_imul d_Pa_threadsByThree_32 ?_
  refine zi_iload_n 2 d_Pa_threadsByThree_33 rfl ?_
  refine zi_iadd d_Pa_threadsByThree_34 ?_
  obtain ⟨v_3, ev_3, h⟩ := zbind h
  refine zo_iald 36 d_Pa_threadsByThree_35 ev_3 rfl ?_
  refine zi_iadd d_Pa_threadsByThree_36 ?_
  refine zi_aload_n 0 d_Pa_threadsByThree_37 rfl ?_
  refine zo_getR 41 zkd_4 2 d_Pa_threadsByThree_38 eb_1 rfl tw_300 rfl ?_
  refine zi_bipush 16 d_Pa_threadsByThree_41 rfl ?_
  refine zi_iload_n 1 d_Pa_threadsByThree_43 rfl ?_
  refine zi_bipush 7 d_Pa_threadsByThree_44 rfl ?_
  refine zi_iand d_Pa_threadsByThree_46 ?_
  refine zi_iadd d_Pa_threadsByThree_47 ?_
  refine zi_bipush 8 d_Pa_threadsByThree_48 rfl ?_
  refine zi_imul d_Pa_threadsByThree_50 ?_
  refine zi_iload_n 2 d_Pa_threadsByThree_51 rfl ?_
  refine zi_iadd d_Pa_threadsByThree_52 ?_
  obtain ⟨v_4, ev_4, h⟩ := zbind h
  refine zo_iald 54 d_Pa_threadsByThree_53 ev_4 rfl ?_
  refine zi_iadd d_Pa_threadsByThree_54 ?_
  cases h
  exact zo_ret d_Pa_threadsByThree_55 (Nat.le_of_ble_eq_true rfl) (Nat.le_of_ble_eq_true rfl) rfl
theorem C_Pa_threadsByThree (n : Nat) (E : zE) (S : zS) (a0 : Nat) (x1 : Int32) (x2 : Int32) (M : zH) (r : Int32) (M' : zH) (h : F_Pa_threadsByThree n E S a0 x1 x2 M = some (r, M')) : zC E Y_Pa_threadsByThree [.ref a0, .int x1, .int x2] S M (some (.int r), S, M') :=
  zC.of (Or.inl (show plainName "NightColander$Paper" = true by decide)) (Nat.le_of_ble_eq_true rfl) (trivial) (K_Pa_threadsByThree n E S a0 x1 x2 M r M' h)
theorem d_Pa_threadsBy_0 : decode (yB Y_Pa_threadsBy) 0 = .ok (.aload_n 0, 1) := by decide +kernel
theorem d_Pa_threadsBy_1 : decode (yB Y_Pa_threadsBy) 1 = .ok (.iload_n 1, 1) := by decide +kernel
theorem d_Pa_threadsBy_2 : decode (yB Y_Pa_threadsBy) 2 = .ok (.iconst 3, 1) := by decide +kernel
theorem d_Pa_threadsBy_3 : decode (yB Y_Pa_threadsBy) 3 = .ok (.ishr, 1) := by decide +kernel
theorem d_Pa_threadsBy_4 : decode (yB Y_Pa_threadsBy) 4 = .ok (.iload_n 2, 1) := by decide +kernel
theorem d_Pa_threadsBy_5 : decode (yB Y_Pa_threadsBy) 5 = .ok (.invokevirtual 119, 3) := by decide +kernel
theorem d_Pa_threadsBy_8 : decode (yB Y_Pa_threadsBy) 8 = .ok (.aload_n 0, 1) := by decide +kernel
theorem d_Pa_threadsBy_9 : decode (yB Y_Pa_threadsBy) 9 = .ok (.getfield 18, 3) := by decide +kernel
theorem d_Pa_threadsBy_12 : decode (yB Y_Pa_threadsBy) 12 = .ok (.sipush 192, 3) := by decide +kernel
theorem d_Pa_threadsBy_15 : decode (yB Y_Pa_threadsBy) 15 = .ok (.iload_n 1, 1) := by decide +kernel
theorem d_Pa_threadsBy_16 : decode (yB Y_Pa_threadsBy) 16 = .ok (.bipush 7, 2) := by decide +kernel
theorem d_Pa_threadsBy_18 : decode (yB Y_Pa_threadsBy) 18 = .ok (.iand, 1) := by decide +kernel
theorem d_Pa_threadsBy_19 : decode (yB Y_Pa_threadsBy) 19 = .ok (.bipush 8, 2) := by decide +kernel
theorem d_Pa_threadsBy_21 : decode (yB Y_Pa_threadsBy) 21 = .ok (.imul, 1) := by decide +kernel
theorem d_Pa_threadsBy_22 : decode (yB Y_Pa_threadsBy) 22 = .ok (.iadd, 1) := by decide +kernel
theorem d_Pa_threadsBy_23 : decode (yB Y_Pa_threadsBy) 23 = .ok (.iload_n 2, 1) := by decide +kernel
theorem d_Pa_threadsBy_24 : decode (yB Y_Pa_threadsBy) 24 = .ok (.iadd, 1) := by decide +kernel
theorem d_Pa_threadsBy_25 : decode (yB Y_Pa_threadsBy) 25 = .ok (.iaload, 1) := by decide +kernel
theorem d_Pa_threadsBy_26 : decode (yB Y_Pa_threadsBy) 26 = .ok (.iadd, 1) := by decide +kernel
theorem d_Pa_threadsBy_27 : decode (yB Y_Pa_threadsBy) 27 = .ok (.ireturn, 1) := by decide +kernel
def F_Pa_threadsBy (n : Nat) (E : zE) (S : zS) (a0 : Nat) (x1 : Int32) (x2 : Int32) (M : zH) : Option (Int32 × zH) :=
  (zck S a0 4).bind fun u_1 =>
  (F_Pa_threadsByThree n E S a0 (x1 >>> ((3 : Int32) &&& (31 : Int32))) x2 M).bind fun q_2 =>
  (zgR S a0 4 2).bind fun b_3 =>
  (zldI S q_2.2 b_3 ((192 + ((x1 &&& (7 : Int32)) * 8)) + x2)).bind fun v_4 =>
  some (q_2.1 + v_4, q_2.2)
theorem K_Pa_threadsBy (n : Nat) (E : zE) (S : zS) (a0 : Nat) (x1 : Int32) (x2 : Int32) (M : zH) (r : Int32) (M' : zH)  (h : F_Pa_threadsBy n E S a0 x1 x2 M = some (r, M')) : zG E Y_Pa_threadsBy (some (.int r), S, M') 0 [(0, .ref a0), (1, .int x1), (2, .int x2)] [] S M 0 0 := by
  unfold F_Pa_threadsBy at h
  refine zi_aload_n 0 d_Pa_threadsBy_0 rfl ?_
  refine zi_iload_n 1 d_Pa_threadsBy_1 rfl ?_
  refine zi_iconst 3 d_Pa_threadsBy_2 rfl ?_
  refine zi_ishr d_Pa_threadsBy_3 ?_
  refine zi_iload_n 2 d_Pa_threadsBy_4 rfl ?_
  obtain ⟨u_1, eu_1, h⟩ := zbind h
  obtain ⟨q_2, eq_2, h⟩ := zbind h
  refine zo_virt (k' := 0) (n' := 0) 8 [.int (x1 >>> ((3 : Int32) &&& (31 : Int32))), .int x2] [] [.int q_2.1] zkd_4 (zck_s eu_1) (C_Pa_threadsByThree n E S a0 (x1 >>> ((3 : Int32) &&& (31 : Int32))) x2 M q_2.1 q_2.2 eq_2) d_Pa_threadsBy_5 tw_1054 tw_1051 tw_1053 ts_31 tw_12 dd_Pa_threadsByThree ⟨Nat.le_of_ble_eq_true rfl, Nat.le_of_ble_eq_true rfl, Nat.le_of_ble_eq_true rfl, Nat.le_of_ble_eq_true rfl⟩ (Nat.le_of_ble_eq_true rfl) rfl rfl rfl rfl ?_
  refine zi_aload_n 0 d_Pa_threadsBy_8 rfl ?_
  obtain ⟨b_3, eb_3, h⟩ := zbind h
  refine zo_getR 12 zkd_4 2 d_Pa_threadsBy_9 eb_3 rfl tw_300 rfl ?_
  refine zi_sipush 192 d_Pa_threadsBy_12 rfl ?_
  refine zi_iload_n 1 d_Pa_threadsBy_15 rfl ?_
  refine zi_bipush 7 d_Pa_threadsBy_16 rfl ?_
  refine zi_iand d_Pa_threadsBy_18 ?_
  refine zi_bipush 8 d_Pa_threadsBy_19 rfl ?_
  refine zi_imul d_Pa_threadsBy_21 ?_
  refine zi_iadd d_Pa_threadsBy_22 ?_
  refine zi_iload_n 2 d_Pa_threadsBy_23 rfl ?_
  refine zi_iadd d_Pa_threadsBy_24 ?_
  obtain ⟨v_4, ev_4, h⟩ := zbind h
  refine zo_iald 26 d_Pa_threadsBy_25 ev_4 rfl ?_
  refine zi_iadd d_Pa_threadsBy_26 ?_
  cases h
  exact zo_ret d_Pa_threadsBy_27 (Nat.le_of_ble_eq_true rfl) (Nat.le_of_ble_eq_true rfl) rfl
theorem C_Pa_threadsBy (n : Nat) (E : zE) (S : zS) (a0 : Nat) (x1 : Int32) (x2 : Int32) (M : zH) (r : Int32) (M' : zH) (h : F_Pa_threadsBy n E S a0 x1 x2 M = some (r, M')) : zC E Y_Pa_threadsBy [.ref a0, .int x1, .int x2] S M (some (.int r), S, M') :=
  zC.of (Or.inl (show plainName "NightColander$Paper" = true by decide)) (Nat.le_of_ble_eq_true rfl) (trivial) (K_Pa_threadsBy n E S a0 x1 x2 M r M' h)
theorem d_Pa_fitsSeen_0 : decode (yB Y_Pa_fitsSeen) 0 = .ok (.iconst 0, 1) := by decide +kernel
theorem d_Pa_fitsSeen_1 : decode (yB Y_Pa_fitsSeen) 1 = .ok (.istore_n 3, 1) := by decide +kernel
theorem d_Pa_fitsSeen_2 : decode (yB Y_Pa_fitsSeen) 2 = .ok (.iload_n 3, 1) := by decide +kernel
theorem d_Pa_fitsSeen_3 : decode (yB Y_Pa_fitsSeen) 3 = .ok (.aload_n 1, 1) := by decide +kernel
theorem d_Pa_fitsSeen_4 : decode (yB Y_Pa_fitsSeen) 4 = .ok (.getfield 122, 3) := by decide +kernel
theorem d_Pa_fitsSeen_7 : decode (yB Y_Pa_fitsSeen) 7 = .ok (.if_icmp .ge 31, 3) := by decide +kernel
theorem d_Pa_fitsSeen_10 : decode (yB Y_Pa_fitsSeen) 10 = .ok (.aload_n 0, 1) := by decide +kernel
theorem d_Pa_fitsSeen_11 : decode (yB Y_Pa_fitsSeen) 11 = .ok (.iload_n 2, 1) := by decide +kernel
theorem d_Pa_fitsSeen_12 : decode (yB Y_Pa_fitsSeen) 12 = .ok (.aload_n 1, 1) := by decide +kernel
theorem d_Pa_fitsSeen_13 : decode (yB Y_Pa_fitsSeen) 13 = .ok (.getfield 125, 3) := by decide +kernel
theorem d_Pa_fitsSeen_16 : decode (yB Y_Pa_fitsSeen) 16 = .ok (.iload_n 3, 1) := by decide +kernel
theorem d_Pa_fitsSeen_17 : decode (yB Y_Pa_fitsSeen) 17 = .ok (.iaload, 1) := by decide +kernel
theorem d_Pa_fitsSeen_18 : decode (yB Y_Pa_fitsSeen) 18 = .ok (.invokevirtual 128, 3) := by decide +kernel
theorem d_Pa_fitsSeen_21 : decode (yB Y_Pa_fitsSeen) 21 = .ok (.aload_n 1, 1) := by decide +kernel
theorem d_Pa_fitsSeen_22 : decode (yB Y_Pa_fitsSeen) 22 = .ok (.getfield 131, 3) := by decide +kernel
theorem d_Pa_fitsSeen_25 : decode (yB Y_Pa_fitsSeen) 25 = .ok (.iload_n 3, 1) := by decide +kernel
theorem d_Pa_fitsSeen_26 : decode (yB Y_Pa_fitsSeen) 26 = .ok (.iaload, 1) := by decide +kernel
theorem d_Pa_fitsSeen_27 : decode (yB Y_Pa_fitsSeen) 27 = .ok (.if_icmp .eq 5, 3) := by decide +kernel
theorem d_Pa_fitsSeen_30 : decode (yB Y_Pa_fitsSeen) 30 = .ok (.iconst 0, 1) := by decide +kernel
theorem d_Pa_fitsSeen_31 : decode (yB Y_Pa_fitsSeen) 31 = .ok (.ireturn, 1) := by decide +kernel
theorem d_Pa_fitsSeen_32 : decode (yB Y_Pa_fitsSeen) 32 = .ok (.iinc 3 1, 3) := by decide +kernel
theorem d_Pa_fitsSeen_35 : decode (yB Y_Pa_fitsSeen) 35 = .ok (.goto (-33), 3) := by decide +kernel
theorem d_Pa_fitsSeen_38 : decode (yB Y_Pa_fitsSeen) 38 = .ok (.iconst 1, 1) := by decide +kernel
theorem d_Pa_fitsSeen_39 : decode (yB Y_Pa_fitsSeen) 39 = .ok (.ireturn, 1) := by decide +kernel
def F_Pa_fitsSeen_L2 (n : Nat) (E : zE) (S : zS) (r2 : Nat × Nat × Int32 × Int32 × zH → Option (Bool × zH)) (a0 : Nat) (a1 : Nat) (x2 : Int32) (x3 : Int32) (M : zH) : Option (Bool × zH) :=
  (zgI S M a1 3 12).bind fun v_1 =>
  if v_1 ≤ x3 then
    some (true, M)
  else
    (zgR S a1 3 7).bind fun b_3 =>
    (zldI S M b_3 x3).bind fun v_4 =>
    (zck S a0 4).bind fun u_5 =>
    (F_Pa_threadsBy n E S a0 x2 v_4 M).bind fun q_6 =>
    (zgR S a1 3 8).bind fun b_7 =>
    (zldI S q_6.2 b_7 x3).bind fun v_8 =>
    if q_6.1 = v_8 then
      r2 (a0, a1, x2, x3 + 1, q_6.2)
    else
      some (false, q_6.2)
def F_Pa_fitsSeen_b2 (n : Nat) (E : zE) (S : zS) : Nat × Nat × Int32 × Int32 × zH → Option (Bool × zH) := zfix (fun r2 s => F_Pa_fitsSeen_L2 n E S r2 s.1 s.2.1 s.2.2.1 s.2.2.2.1 s.2.2.2.2) n
def F_Pa_fitsSeen (n : Nat) (E : zE) (S : zS) (a0 : Nat) (a1 : Nat) (x2 : Int32) (M : zH) : Option (Bool × zH) :=
  F_Pa_fitsSeen_b2 n E S (a0, a1, x2, 0, M)
theorem K_Pa_fitsSeen_L2 (n : Nat) (E : zE) (S : zS) (r2 : Nat × Nat × Int32 × Int32 × zH → Option (Bool × zH)) (a0 : Nat) (a1 : Nat) (x2 : Int32) (x3 : Int32) (M : zH) (r : Bool) (M' : zH) (hr2 : ∀ (a0 : Nat) (a1 : Nat) (x2 : Int32) (x3 : Int32) (M : zH), r2 (a0, a1, x2, x3, M) = some (r, M') → zG E Y_Pa_fitsSeen (some (.int (bI r)), S, M') 2 [(0, .ref a0), (1, .ref a1), (2, .int x2), (3, .int x3)] [] S M 0 0) (h : F_Pa_fitsSeen_L2 n E S r2 a0 a1 x2 x3 M = some (r, M')) : zG E Y_Pa_fitsSeen (some (.int (bI r)), S, M') 2 [(0, .ref a0), (1, .ref a1), (2, .int x2), (3, .int x3)] [] S M 0 0 := by
  unfold F_Pa_fitsSeen_L2 at h
  refine zi_iload_n 3 d_Pa_fitsSeen_2 rfl ?_
  refine zi_aload_n 1 d_Pa_fitsSeen_3 rfl ?_
  obtain ⟨v_1, ev_1, h⟩ := zbind h
  refine zo_getI 7 zkd_3 12 d_Pa_fitsSeen_4 ev_1 rfl tw_91 rfl ?_
  refine zi_icmp_ge (tgt := 38) d_Pa_fitsSeen_7 rfl (fun c_2 => ?_) (fun c_2 => ?_)
  · rw [if_pos c_2] at h
    refine zi_iconst 1 d_Pa_fitsSeen_38 rfl ?_
    cases h
    exact zo_retB d_Pa_fitsSeen_39 (Nat.le_of_ble_eq_true rfl) (Nat.le_of_ble_eq_true rfl) rfl
  · rw [if_neg c_2] at h
    refine zi_aload_n 0 d_Pa_fitsSeen_10 rfl ?_
    refine zi_iload_n 2 d_Pa_fitsSeen_11 rfl ?_
    refine zi_aload_n 1 d_Pa_fitsSeen_12 rfl ?_
    obtain ⟨b_3, eb_3, h⟩ := zbind h
    refine zo_getR 16 zkd_3 7 d_Pa_fitsSeen_13 eb_3 rfl tw_77 rfl ?_
    refine zi_iload_n 3 d_Pa_fitsSeen_16 rfl ?_
    obtain ⟨v_4, ev_4, h⟩ := zbind h
    refine zo_iald 18 d_Pa_fitsSeen_17 ev_4 rfl ?_
    obtain ⟨u_5, eu_5, h⟩ := zbind h
    obtain ⟨q_6, eq_6, h⟩ := zbind h
    refine zo_virt (k' := 0) (n' := 0) 21 [.int x2, .int v_4] [] [.int q_6.1] zkd_4 (zck_s eu_5) (C_Pa_threadsBy n E S a0 x2 v_4 M q_6.1 q_6.2 eq_6) d_Pa_fitsSeen_18 tw_1050 tw_1047 tw_1049 ts_30 tw_12 dd_Pa_threadsBy ⟨Nat.le_of_ble_eq_true rfl, Nat.le_of_ble_eq_true rfl, Nat.le_of_ble_eq_true rfl, Nat.le_of_ble_eq_true rfl⟩ (Nat.le_of_ble_eq_true rfl) rfl rfl rfl rfl ?_
    refine zi_aload_n 1 d_Pa_fitsSeen_21 rfl ?_
    obtain ⟨b_7, eb_7, h⟩ := zbind h
    refine zo_getR 25 zkd_3 8 d_Pa_fitsSeen_22 eb_7 rfl tw_79 rfl ?_
    refine zi_iload_n 3 d_Pa_fitsSeen_25 rfl ?_
    obtain ⟨v_8, ev_8, h⟩ := zbind h
    refine zo_iald 27 d_Pa_fitsSeen_26 ev_8 rfl ?_
    refine zi_icmp_eq (tgt := 32) d_Pa_fitsSeen_27 rfl (fun c_9 => ?_) (fun c_9 => ?_)
    · rw [if_pos c_9] at h
      refine zi_iinc 3 (x3 + 1) [(3, .int (x3 + 1)), (0, .ref a0), (1, .ref a1), (2, .int x2)] d_Pa_fitsSeen_32 rfl rfl (by decide) rfl ?_
      refine zi_goto (tgt := 2) d_Pa_fitsSeen_35 rfl ?_
      refine zi_lo [(0, .ref a0), (1, .ref a1), (2, .int x2), (3, .int (x3 + 1))] [1, 2, 3, 0] rfl ?_
      exact hr2 a0 a1 x2 (x3 + 1) q_6.2 h
    · rw [if_neg c_9] at h
      refine zi_iconst 0 d_Pa_fitsSeen_30 rfl ?_
      cases h
      exact zo_retB d_Pa_fitsSeen_31 (Nat.le_of_ble_eq_true rfl) (Nat.le_of_ble_eq_true rfl) rfl
theorem K_Pa_fitsSeen_b2 (n : Nat) (E : zE) (S : zS) (a0 : Nat) (a1 : Nat) (x2 : Int32) (x3 : Int32) (M : zH) (r : Bool) (M' : zH)  (h : F_Pa_fitsSeen_b2 n E S (a0, a1, x2, x3, M) = some (r, M')) : zG E Y_Pa_fitsSeen (some (.int (bI r)), S, M') 2 [(0, .ref a0), (1, .ref a1), (2, .int x2), (3, .int x3)] [] S M 0 0 := by
  have key : ∀ (k : Nat) (a0 : Nat) (a1 : Nat) (x2 : Int32) (x3 : Int32) (M : zH), zfix (fun r2 s => F_Pa_fitsSeen_L2 n E S r2 s.1 s.2.1 s.2.2.1 s.2.2.2.1 s.2.2.2.2) k (a0, a1, x2, x3, M) = some (r, M') → zG E Y_Pa_fitsSeen (some (.int (bI r)), S, M') 2 [(0, .ref a0), (1, .ref a1), (2, .int x2), (3, .int x3)] [] S M 0 0 := by
    intro k
    induction k with
    | zero => intro a0 a1 x2 x3 M h; cases h
    | succ k ih => intro a0 a1 x2 x3 M h; exact K_Pa_fitsSeen_L2 n E S _ a0 a1 x2 x3 M r M'  (fun a0 a1 x2 x3 M h => ih a0 a1 x2 x3 M h) h
  exact key n a0 a1 x2 x3 M h
theorem K_Pa_fitsSeen (n : Nat) (E : zE) (S : zS) (a0 : Nat) (a1 : Nat) (x2 : Int32) (M : zH) (r : Bool) (M' : zH)  (h : F_Pa_fitsSeen n E S a0 a1 x2 M = some (r, M')) : zG E Y_Pa_fitsSeen (some (.int (bI r)), S, M') 0 [(0, .ref a0), (1, .ref a1), (2, .int x2)] [] S M 0 0 := by
  unfold F_Pa_fitsSeen at h
  refine zi_iconst 0 d_Pa_fitsSeen_0 rfl ?_
  refine zi_istore_n [(3, .int 0), (0, .ref a0), (1, .ref a1), (2, .int x2)] d_Pa_fitsSeen_1 (by decide) rfl ?_
  refine zi_lo [(0, .ref a0), (1, .ref a1), (2, .int x2), (3, .int 0)] [1, 2, 3, 0] rfl ?_
  exact K_Pa_fitsSeen_b2 n E S a0 a1 x2 0 M r M'  h
theorem C_Pa_fitsSeen (n : Nat) (E : zE) (S : zS) (a0 : Nat) (a1 : Nat) (x2 : Int32) (M : zH) (r : Bool) (M' : zH) (h : F_Pa_fitsSeen n E S a0 a1 x2 M = some (r, M')) : zC E Y_Pa_fitsSeen [.ref a0, .ref a1, .int x2] S M (some (.int (bI r)), S, M') :=
  zC.of (Or.inl (show plainName "NightColander$Paper" = true by decide)) (Nat.le_of_ble_eq_true rfl) (bI_nar r) (K_Pa_fitsSeen n E S a0 a1 x2 M r M' h)
theorem d_Pa_settingAt_0 : decode (yB Y_Pa_settingAt) 0 = .ok (.aload_n 0, 1) := by decide +kernel
theorem d_Pa_settingAt_1 : decode (yB Y_Pa_settingAt) 1 = .ok (.aload_n 1, 1) := by decide +kernel
theorem d_Pa_settingAt_2 : decode (yB Y_Pa_settingAt) 2 = .ok (.invokevirtual 134, 3) := by decide +kernel
theorem d_Pa_settingAt_5 : decode (yB Y_Pa_settingAt) 5 = .ok (.iconst 0, 1) := by decide +kernel
theorem d_Pa_settingAt_6 : decode (yB Y_Pa_settingAt) 6 = .ok (.istore_n 3, 1) := by decide +kernel
theorem d_Pa_settingAt_7 : decode (yB Y_Pa_settingAt) 7 = .ok (.iconst 0, 1) := by decide +kernel
theorem d_Pa_settingAt_8 : decode (yB Y_Pa_settingAt) 8 = .ok (.istore 4, 2) := by decide +kernel
theorem d_Pa_settingAt_10 : decode (yB Y_Pa_settingAt) 10 = .ok (.iload 4, 2) := by decide +kernel
theorem d_Pa_settingAt_12 : decode (yB Y_Pa_settingAt) 12 = .ok (.sipush 4096, 3) := by decide +kernel
theorem d_Pa_settingAt_15 : decode (yB Y_Pa_settingAt) 15 = .ok (.if_icmp .ge 33, 3) := by decide +kernel
theorem d_Pa_settingAt_18 : decode (yB Y_Pa_settingAt) 18 = .ok (.aload_n 0, 1) := by decide +kernel
theorem d_Pa_settingAt_19 : decode (yB Y_Pa_settingAt) 19 = .ok (.aload_n 1, 1) := by decide +kernel
theorem d_Pa_settingAt_20 : decode (yB Y_Pa_settingAt) 20 = .ok (.iload 4, 2) := by decide +kernel
theorem d_Pa_settingAt_22 : decode (yB Y_Pa_settingAt) 22 = .ok (.invokevirtual 137, 3) := by decide +kernel
theorem d_Pa_settingAt_25 : decode (yB Y_Pa_settingAt) 25 = .ok (.ifCond .eq 17, 3) := by decide +kernel
theorem d_Pa_settingAt_28 : decode (yB Y_Pa_settingAt) 28 = .ok (.iload_n 3, 1) := by decide +kernel
theorem d_Pa_settingAt_29 : decode (yB Y_Pa_settingAt) 29 = .ok (.iload_n 2, 1) := by decide +kernel
theorem d_Pa_settingAt_30 : decode (yB Y_Pa_settingAt) 30 = .ok (.if_icmp .ne 9, 3) := by decide +kernel
theorem d_Pa_settingAt_33 : decode (yB Y_Pa_settingAt) 33 = .ok (.iload 4, 2) := by decide +kernel
theorem d_Pa_settingAt_35 : decode (yB Y_Pa_settingAt) 35 = .ok (.invokestatic 141, 3) := by decide +kernel
theorem d_Pa_settingAt_38 : decode (yB Y_Pa_settingAt) 38 = .ok (.ireturn, 1) := by decide +kernel
theorem d_Pa_settingAt_39 : decode (yB Y_Pa_settingAt) 39 = .ok (.iinc 3 1, 3) := by decide +kernel
theorem d_Pa_settingAt_42 : decode (yB Y_Pa_settingAt) 42 = .ok (.iinc 4 1, 3) := by decide +kernel
theorem d_Pa_settingAt_45 : decode (yB Y_Pa_settingAt) 45 = .ok (.goto (-35), 3) := by decide +kernel
theorem d_Pa_settingAt_48 : decode (yB Y_Pa_settingAt) 48 = .ok (.iload_n 2, 1) := by decide +kernel
theorem d_Pa_settingAt_49 : decode (yB Y_Pa_settingAt) 49 = .ok (.iconst (-1), 1) := by decide +kernel
theorem d_Pa_settingAt_50 : decode (yB Y_Pa_settingAt) 50 = .ok (.if_icmp .ne 7, 3) := by decide +kernel
theorem d_Pa_settingAt_53 : decode (yB Y_Pa_settingAt) 53 = .ok (.iload_n 3, 1) := by decide +kernel
theorem d_Pa_settingAt_54 : decode (yB Y_Pa_settingAt) 54 = .ok (.goto 4, 3) := by decide +kernel
theorem d_Pa_settingAt_57 : decode (yB Y_Pa_settingAt) 57 = .ok (.iconst (-1), 1) := by decide +kernel
theorem d_Pa_settingAt_58 : decode (yB Y_Pa_settingAt) 58 = .ok (.ireturn, 1) := by decide +kernel
def F_Pa_settingAt_b42 (n : Nat) (E : zE) (S : zS) (r10 : Nat × Nat × Int32 × Int32 × Int32 × zH → Option (Int32 × zH)) (a0 : Nat) (a1 : Nat) (x2 : Int32) (x3 : Int32) (x4 : Int32) (M : zH) : Option (Int32 × zH) :=
  r10 (a0, a1, x2, x3, x4 + 1, M)
def F_Pa_settingAt_L10 (n : Nat) (E : zE) (S : zS) (r10 : Nat × Nat × Int32 × Int32 × Int32 × zH → Option (Int32 × zH)) (a0 : Nat) (a1 : Nat) (x2 : Int32) (x3 : Int32) (x4 : Int32) (M : zH) : Option (Int32 × zH) :=
  if 4096 ≤ x4 then
    if x2 = (-1) then
      some (x3, M)
    else
      some ((-1), M)
  else
    (zck S a0 4).bind fun u_3 =>
    (F_Pa_fitsSeen n E S a0 a1 x4 M).bind fun q_4 =>
    if q_4.1 = true then
      if x3 = x2 then
        (F_Pa_asDecimal n E S x4 q_4.2).bind fun q_7 =>
        some (q_7.1, q_7.2)
      else
        F_Pa_settingAt_b42 n E S r10 a0 a1 x2 (x3 + 1) x4 q_4.2
    else
      F_Pa_settingAt_b42 n E S r10 a0 a1 x2 x3 x4 q_4.2
def F_Pa_settingAt_b10 (n : Nat) (E : zE) (S : zS) : Nat × Nat × Int32 × Int32 × Int32 × zH → Option (Int32 × zH) := zfix (fun r10 s => F_Pa_settingAt_L10 n E S r10 s.1 s.2.1 s.2.2.1 s.2.2.2.1 s.2.2.2.2.1 s.2.2.2.2.2) n
def F_Pa_settingAt (n : Nat) (E : zE) (S : zS) (a0 : Nat) (a1 : Nat) (x2 : Int32) (M : zH) : Option (Int32 × zH) :=
  (zck S a0 4).bind fun u_8 =>
  (F_Pa_findShares n E S a0 a1 M).bind fun q_9 =>
  F_Pa_settingAt_b10 n E S (a0, a1, x2, 0, 0, q_9)
theorem K_Pa_settingAt_b42 (n : Nat) (E : zE) (S : zS) (r10 : Nat × Nat × Int32 × Int32 × Int32 × zH → Option (Int32 × zH)) (a0 : Nat) (a1 : Nat) (x2 : Int32) (x3 : Int32) (x4 : Int32) (M : zH) (r : Int32) (M' : zH) (hr10 : ∀ (a0 : Nat) (a1 : Nat) (x2 : Int32) (x3 : Int32) (x4 : Int32) (M : zH), r10 (a0, a1, x2, x3, x4, M) = some (r, M') → zG E Y_Pa_settingAt (some (.int r), S, M') 10 [(0, .ref a0), (1, .ref a1), (2, .int x2), (3, .int x3), (4, .int x4)] [] S M 0 0) (h : F_Pa_settingAt_b42 n E S r10 a0 a1 x2 x3 x4 M = some (r, M')) : zG E Y_Pa_settingAt (some (.int r), S, M') 42 [(0, .ref a0), (1, .ref a1), (2, .int x2), (3, .int x3), (4, .int x4)] [] S M 0 0 := by
  unfold F_Pa_settingAt_b42 at h
  refine zi_iinc 4 (x4 + 1) [(4, .int (x4 + 1)), (0, .ref a0), (1, .ref a1), (2, .int x2), (3, .int x3)] d_Pa_settingAt_42 rfl rfl (by decide) rfl ?_
  refine zi_goto (tgt := 10) d_Pa_settingAt_45 rfl ?_
  refine zi_lo [(0, .ref a0), (1, .ref a1), (2, .int x2), (3, .int x3), (4, .int (x4 + 1))] [1, 2, 3, 4, 0] rfl ?_
  exact hr10 a0 a1 x2 x3 (x4 + 1) M h
theorem K_Pa_settingAt_L10 (n : Nat) (E : zE) (S : zS) (r10 : Nat × Nat × Int32 × Int32 × Int32 × zH → Option (Int32 × zH)) (a0 : Nat) (a1 : Nat) (x2 : Int32) (x3 : Int32) (x4 : Int32) (M : zH) (r : Int32) (M' : zH) (hr10 : ∀ (a0 : Nat) (a1 : Nat) (x2 : Int32) (x3 : Int32) (x4 : Int32) (M : zH), r10 (a0, a1, x2, x3, x4, M) = some (r, M') → zG E Y_Pa_settingAt (some (.int r), S, M') 10 [(0, .ref a0), (1, .ref a1), (2, .int x2), (3, .int x3), (4, .int x4)] [] S M 0 0) (h : F_Pa_settingAt_L10 n E S r10 a0 a1 x2 x3 x4 M = some (r, M')) : zG E Y_Pa_settingAt (some (.int r), S, M') 10 [(0, .ref a0), (1, .ref a1), (2, .int x2), (3, .int x3), (4, .int x4)] [] S M 0 0 := by
  unfold F_Pa_settingAt_L10 at h
  refine zi_iload 4 d_Pa_settingAt_10 rfl ?_
  refine zi_sipush 4096 d_Pa_settingAt_12 rfl ?_
  refine zi_icmp_ge (tgt := 48) d_Pa_settingAt_15 rfl (fun c_1 => ?_) (fun c_1 => ?_)
  · rw [if_pos c_1] at h
    refine zi_iload_n 2 d_Pa_settingAt_48 rfl ?_
    refine zi_iconst (-1) d_Pa_settingAt_49 rfl ?_
    refine zi_icmp_ne (tgt := 57) d_Pa_settingAt_50 rfl (fun c_2 => ?_) (fun c_2 => ?_)
    · rw [if_neg c_2] at h
      refine zi_iconst (-1) d_Pa_settingAt_57 rfl ?_
      cases h
      exact zo_ret d_Pa_settingAt_58 (Nat.le_of_ble_eq_true rfl) (Nat.le_of_ble_eq_true rfl) rfl
    · rw [if_pos c_2] at h
      refine zi_iload_n 3 d_Pa_settingAt_53 rfl ?_
      refine zi_goto (tgt := 58) d_Pa_settingAt_54 rfl ?_
      cases h
      exact zo_ret d_Pa_settingAt_58 (Nat.le_of_ble_eq_true rfl) (Nat.le_of_ble_eq_true rfl) rfl
  · rw [if_neg c_1] at h
    refine zi_aload_n 0 d_Pa_settingAt_18 rfl ?_
    refine zi_aload_n 1 d_Pa_settingAt_19 rfl ?_
    refine zi_iload 4 d_Pa_settingAt_20 rfl ?_
    obtain ⟨u_3, eu_3, h⟩ := zbind h
    obtain ⟨q_4, eq_4, h⟩ := zbind h
    refine zo_virt (k' := 0) (n' := 0) 25 [.ref a1, .int x4] [] [.int (bI q_4.1)] zkd_4 (zck_s eu_3) (C_Pa_fitsSeen n E S a0 a1 x4 M q_4.1 q_4.2 eq_4) d_Pa_settingAt_22 tw_1046 tw_1043 tw_1045 ts_29 tw_12 dd_Pa_fitsSeen ⟨Nat.le_of_ble_eq_true rfl, Nat.le_of_ble_eq_true rfl, Nat.le_of_ble_eq_true rfl, Nat.le_of_ble_eq_true rfl⟩ (Nat.le_of_ble_eq_true rfl) rfl rfl rfl rfl ?_
    refine zo_ifeqB d_Pa_settingAt_25 rfl 28 rfl (fun c_5 => ?_) (fun c_5 => ?_)
    · rw [if_neg c_5] at h
      refine zi_lo [(0, .ref a0), (1, .ref a1), (2, .int x2), (3, .int x3), (4, .int x4)] [0, 1, 2, 3, 4] rfl ?_
      exact K_Pa_settingAt_b42 n E S r10 a0 a1 x2 x3 x4 q_4.2 r M' hr10 h
    · rw [if_pos c_5] at h
      refine zi_iload_n 3 d_Pa_settingAt_28 rfl ?_
      refine zi_iload_n 2 d_Pa_settingAt_29 rfl ?_
      refine zi_icmp_ne (tgt := 39) d_Pa_settingAt_30 rfl (fun c_6 => ?_) (fun c_6 => ?_)
      · rw [if_neg c_6] at h
        refine zi_iinc 3 (x3 + 1) [(3, .int (x3 + 1)), (0, .ref a0), (1, .ref a1), (2, .int x2), (4, .int x4)] d_Pa_settingAt_39 rfl rfl (by decide) rfl ?_
        refine zi_lo [(0, .ref a0), (1, .ref a1), (2, .int x2), (3, .int (x3 + 1)), (4, .int x4)] [1, 2, 3, 0, 4] rfl ?_
        exact K_Pa_settingAt_b42 n E S r10 a0 a1 x2 (x3 + 1) x4 q_4.2 r M' hr10 h
      · rw [if_pos c_6] at h
        refine zi_iload 4 d_Pa_settingAt_33 rfl ?_
        obtain ⟨q_7, eq_7, h⟩ := zbind h
        refine zo_stat (k' := 0) (n' := 0) 38 [.int x4] [] [.int q_7.1] (C_Pa_asDecimal n E S x4 q_4.2 q_7.1 q_7.2 eq_7) d_Pa_settingAt_35 tw_1057 tw_1055 tw_1056 tw_12 dd_Pa_asDecimal ⟨Nat.le_of_ble_eq_true rfl, Nat.le_of_ble_eq_true rfl, Nat.le_of_ble_eq_true rfl, Nat.le_of_ble_eq_true rfl⟩ (Nat.le_of_ble_eq_true rfl) rfl rfl rfl rfl ?_
        cases h
        exact zo_ret d_Pa_settingAt_38 (Nat.le_of_ble_eq_true rfl) (Nat.le_of_ble_eq_true rfl) rfl
theorem K_Pa_settingAt_b10 (n : Nat) (E : zE) (S : zS) (a0 : Nat) (a1 : Nat) (x2 : Int32) (x3 : Int32) (x4 : Int32) (M : zH) (r : Int32) (M' : zH)  (h : F_Pa_settingAt_b10 n E S (a0, a1, x2, x3, x4, M) = some (r, M')) : zG E Y_Pa_settingAt (some (.int r), S, M') 10 [(0, .ref a0), (1, .ref a1), (2, .int x2), (3, .int x3), (4, .int x4)] [] S M 0 0 := by
  have key : ∀ (k : Nat) (a0 : Nat) (a1 : Nat) (x2 : Int32) (x3 : Int32) (x4 : Int32) (M : zH), zfix (fun r10 s => F_Pa_settingAt_L10 n E S r10 s.1 s.2.1 s.2.2.1 s.2.2.2.1 s.2.2.2.2.1 s.2.2.2.2.2) k (a0, a1, x2, x3, x4, M) = some (r, M') → zG E Y_Pa_settingAt (some (.int r), S, M') 10 [(0, .ref a0), (1, .ref a1), (2, .int x2), (3, .int x3), (4, .int x4)] [] S M 0 0 := by
    intro k
    induction k with
    | zero => intro a0 a1 x2 x3 x4 M h; cases h
    | succ k ih => intro a0 a1 x2 x3 x4 M h; exact K_Pa_settingAt_L10 n E S _ a0 a1 x2 x3 x4 M r M'  (fun a0 a1 x2 x3 x4 M h => ih a0 a1 x2 x3 x4 M h) h
  exact key n a0 a1 x2 x3 x4 M h
theorem K_Pa_settingAt (n : Nat) (E : zE) (S : zS) (a0 : Nat) (a1 : Nat) (x2 : Int32) (M : zH) (r : Int32) (M' : zH)  (h : F_Pa_settingAt n E S a0 a1 x2 M = some (r, M')) : zG E Y_Pa_settingAt (some (.int r), S, M') 0 [(0, .ref a0), (1, .ref a1), (2, .int x2)] [] S M 0 0 := by
  unfold F_Pa_settingAt at h
  refine zi_aload_n 0 d_Pa_settingAt_0 rfl ?_
  refine zi_aload_n 1 d_Pa_settingAt_1 rfl ?_
  obtain ⟨u_8, eu_8, h⟩ := zbind h
  obtain ⟨q_9, eq_9, h⟩ := zbind h
  refine zo_virt (k' := 0) (n' := 0) 5 [.ref a1] [] [] zkd_4 (zck_s eu_8) (C_Pa_findShares n E S a0 a1 M q_9 eq_9) d_Pa_settingAt_2 tw_1037 tw_1034 tw_1036 ts_28 tw_12 dd_Pa_findShares ⟨Nat.le_of_ble_eq_true rfl, Nat.le_of_ble_eq_true rfl, Nat.le_of_ble_eq_true rfl, Nat.le_of_ble_eq_true rfl⟩ (Nat.le_of_ble_eq_true rfl) rfl rfl rfl rfl ?_
  refine zi_iconst 0 d_Pa_settingAt_5 rfl ?_
  refine zi_istore_n [(3, .int 0), (0, .ref a0), (1, .ref a1), (2, .int x2)] d_Pa_settingAt_6 (by decide) rfl ?_
  refine zi_iconst 0 d_Pa_settingAt_7 rfl ?_
  refine zi_istore [(4, .int 0), (3, .int 0), (0, .ref a0), (1, .ref a1), (2, .int x2)] d_Pa_settingAt_8 (by decide) rfl ?_
  refine zi_lo [(0, .ref a0), (1, .ref a1), (2, .int x2), (3, .int 0), (4, .int 0)] [2, 3, 4, 1, 0] rfl ?_
  exact K_Pa_settingAt_b10 n E S a0 a1 x2 0 0 q_9 r M'  h
theorem C_Pa_settingAt (n : Nat) (E : zE) (S : zS) (a0 : Nat) (a1 : Nat) (x2 : Int32) (M : zH) (r : Int32) (M' : zH) (h : F_Pa_settingAt n E S a0 a1 x2 M = some (r, M')) : zC E Y_Pa_settingAt [.ref a0, .ref a1, .int x2] S M (some (.int r), S, M') :=
  zC.of (Or.inl (show plainName "NightColander$Paper" = true by decide)) (Nat.le_of_ble_eq_true rfl) (trivial) (K_Pa_settingAt n E S a0 a1 x2 M r M' h)
theorem d_NC_settings_0 : decode (yB Y_NC_settings) 0 = .ok (.iload_n 1, 1) := by decide +kernel
theorem d_NC_settings_1 : decode (yB Y_NC_settings) 1 = .ok (.iconst (-1), 1) := by decide +kernel
theorem d_NC_settings_2 : decode (yB Y_NC_settings) 2 = .ok (.if_icmp .ge 7, 3) := by decide +kernel
theorem d_NC_settings_5 : decode (yB Y_NC_settings) 5 = .ok (.iconst (-1), 1) := by decide +kernel
theorem d_NC_settings_6 : decode (yB Y_NC_settings) 6 = .ok (.goto 15, 3) := by decide +kernel
theorem d_NC_settings_9 : decode (yB Y_NC_settings) 9 = .ok (.aload_n 0, 1) := by decide +kernel
theorem d_NC_settings_10 : decode (yB Y_NC_settings) 10 = .ok (.getfield 86, 3) := by decide +kernel
theorem d_NC_settings_13 : decode (yB Y_NC_settings) 13 = .ok (.aload_n 0, 1) := by decide +kernel
theorem d_NC_settings_14 : decode (yB Y_NC_settings) 14 = .ok (.getfield 12, 3) := by decide +kernel
theorem d_NC_settings_17 : decode (yB Y_NC_settings) 17 = .ok (.iload_n 1, 1) := by decide +kernel
theorem d_NC_settings_18 : decode (yB Y_NC_settings) 18 = .ok (.invokevirtual 279, 3) := by decide +kernel
theorem d_NC_settings_21 : decode (yB Y_NC_settings) 21 = .ok (.ireturn, 1) := by decide +kernel
def F_NC_settings (n : Nat) (E : zE) (S : zS) (a0 : Nat) (x1 : Int32) (M : zH) : Option (Int32 × zH) :=
  if (-1) ≤ x1 then
    (zgR S a0 10 12).bind fun b_2 =>
    (zgR S a0 10 0).bind fun b_3 =>
    (zck S b_2 4).bind fun u_4 =>
    (F_Pa_settingAt n E S b_2 b_3 x1 M).bind fun q_5 =>
    some (q_5.1, q_5.2)
  else
    some ((-1), M)
theorem K_NC_settings (n : Nat) (E : zE) (S : zS) (a0 : Nat) (x1 : Int32) (M : zH) (r : Int32) (M' : zH)  (h : F_NC_settings n E S a0 x1 M = some (r, M')) : zG E Y_NC_settings (some (.int r), S, M') 0 [(0, .ref a0), (1, .int x1)] [] S M 0 0 := by
  unfold F_NC_settings at h
  refine zi_iload_n 1 d_NC_settings_0 rfl ?_
  refine zi_iconst (-1) d_NC_settings_1 rfl ?_
  refine zi_icmp_ge (tgt := 9) d_NC_settings_2 rfl (fun c_1 => ?_) (fun c_1 => ?_)
  · rw [if_pos c_1] at h
    refine zi_aload_n 0 d_NC_settings_9 rfl ?_
    obtain ⟨b_2, eb_2, h⟩ := zbind h
    refine zo_getR 13 zkd_10 12 d_NC_settings_10 eb_2 rfl tw_344 rfl ?_
    refine zi_aload_n 0 d_NC_settings_13 rfl ?_
    obtain ⟨b_3, eb_3, h⟩ := zbind h
    refine zo_getR 17 zkd_10 0 d_NC_settings_14 eb_3 rfl tw_332 rfl ?_
    refine zi_iload_n 1 d_NC_settings_17 rfl ?_
    obtain ⟨u_4, eu_4, h⟩ := zbind h
    obtain ⟨q_5, eq_5, h⟩ := zbind h
    refine zo_virt (k' := 0) (n' := 0) 21 [.ref b_3, .int x1] [] [.int q_5.1] zkd_4 (zck_s eu_4) (C_Pa_settingAt n E S b_2 b_3 x1 M q_5.1 q_5.2 eq_5) d_NC_settings_18 tw_1033 tw_1030 tw_1031 tw_1032 tw_12 dd_Pa_settingAt ⟨Nat.le_of_ble_eq_true rfl, Nat.le_of_ble_eq_true rfl, Nat.le_of_ble_eq_true rfl, Nat.le_of_ble_eq_true rfl⟩ (Nat.le_of_ble_eq_true rfl) rfl rfl rfl rfl ?_
    cases h
    exact zo_ret d_NC_settings_21 (Nat.le_of_ble_eq_true rfl) (Nat.le_of_ble_eq_true rfl) rfl
  · rw [if_neg c_1] at h
    refine zi_iconst (-1) d_NC_settings_5 rfl ?_
    refine zi_goto (tgt := 21) d_NC_settings_6 rfl ?_
    cases h
    exact zo_ret d_NC_settings_21 (Nat.le_of_ble_eq_true rfl) (Nat.le_of_ble_eq_true rfl) rfl
theorem C_NC_settings (n : Nat) (E : zE) (S : zS) (a0 : Nat) (x1 : Int32) (M : zH) (r : Int32) (M' : zH) (h : F_NC_settings n E S a0 x1 M = some (r, M')) : zC E Y_NC_settings [.ref a0, .int x1] S M (some (.int r), S, M') :=
  zC.of (Or.inl (show plainName "NightColander" = true by decide)) (Nat.le_of_ble_eq_true rfl) (trivial) (K_NC_settings n E S a0 x1 M r M' h)
