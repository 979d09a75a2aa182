/-! METHODS (printed by gen/build.py): Pa_findCleared NC_cleared Pa_longestDrought NC_drought NC_luck NC_together NC_settled Ja_fillJ Pa_chanceOfFew -/
theorem d_Pa_findCleared_0 : decode (yB Y_Pa_findCleared) 0 = .ok (.iconst 0, 1) := by decide +kernel
theorem d_Pa_findCleared_1 : decode (yB Y_Pa_findCleared) 1 = .ok (.istore 4, 2) := by decide +kernel
theorem d_Pa_findCleared_3 : decode (yB Y_Pa_findCleared) 3 = .ok (.iconst 0, 1) := by decide +kernel
theorem d_Pa_findCleared_4 : decode (yB Y_Pa_findCleared) 4 = .ok (.istore 5, 2) := by decide +kernel
theorem d_Pa_findCleared_6 : decode (yB Y_Pa_findCleared) 6 = .ok (.iconst 0, 1) := by decide +kernel
theorem d_Pa_findCleared_7 : decode (yB Y_Pa_findCleared) 7 = .ok (.istore 6, 2) := by decide +kernel
theorem d_Pa_findCleared_9 : decode (yB Y_Pa_findCleared) 9 = .ok (.iload 6, 2) := by decide +kernel
theorem d_Pa_findCleared_11 : decode (yB Y_Pa_findCleared) 11 = .ok (.iconst 4, 1) := by decide +kernel
theorem d_Pa_findCleared_12 : decode (yB Y_Pa_findCleared) 12 = .ok (.if_icmp .ge 77, 3) := by decide +kernel
theorem d_Pa_findCleared_15 : decode (yB Y_Pa_findCleared) 15 = .ok (.aload_n 1, 1) := by decide +kernel
theorem d_Pa_findCleared_16 : decode (yB Y_Pa_findCleared) 16 = .ok (.iload 6, 2) := by decide +kernel
theorem d_Pa_findCleared_18 : decode (yB Y_Pa_findCleared) 18 = .ok (.iload_n 2, 1) := by decide +kernel
theorem d_Pa_findCleared_19 : decode (yB Y_Pa_findCleared) 19 = .ok (.invokevirtual 164, 3) := by decide +kernel
theorem d_Pa_findCleared_22 : decode (yB Y_Pa_findCleared) 22 = .ok (.istore 7, 2) := by decide +kernel
theorem d_Pa_findCleared_24 : decode (yB Y_Pa_findCleared) 24 = .ok (.aload_n 0, 1) := by decide +kernel
theorem d_Pa_findCleared_25 : decode (yB Y_Pa_findCleared) 25 = .ok (.getfield 18, 3) := by decide +kernel
theorem d_Pa_findCleared_28 : decode (yB Y_Pa_findCleared) 28 = .ok (.iload 6, 2) := by decide +kernel
theorem d_Pa_findCleared_30 : decode (yB Y_Pa_findCleared) 30 = .ok (.aload_n 0, 1) := by decide +kernel
theorem d_Pa_findCleared_31 : decode (yB Y_Pa_findCleared) 31 = .ok (.getfield 45, 3) := by decide +kernel
theorem d_Pa_findCleared_34 : decode (yB Y_Pa_findCleared) 34 = .ok (.aload_n 1, 1) := by decide +kernel
theorem d_Pa_findCleared_35 : decode (yB Y_Pa_findCleared) 35 = .ok (.iload 6, 2) := by decide +kernel
theorem d_Pa_findCleared_37 : decode (yB Y_Pa_findCleared) 37 = .ok (.iload 7, 2) := by decide +kernel
theorem d_Pa_findCleared_39 : decode (yB Y_Pa_findCleared) 39 = .ok (.invokevirtual 167, 3) := by decide +kernel
theorem d_Pa_findCleared_42 : decode (yB Y_Pa_findCleared) 42 = .ok (.iastore, 1) := by decide +kernel
theorem d_Pa_findCleared_43 : decode (yB Y_Pa_findCleared) 43 = .ok (.aload_n 1, 1) := by decide +kernel
theorem d_Pa_findCleared_44 : decode (yB Y_Pa_findCleared) 44 = .ok (.getfield 170, 3) := by decide +kernel
theorem d_Pa_findCleared_47 : decode (yB Y_Pa_findCleared) 47 = .ok (.iload 6, 2) := by decide +kernel
theorem d_Pa_findCleared_49 : decode (yB Y_Pa_findCleared) 49 = .ok (.bipush 8, 2) := by decide +kernel
theorem d_Pa_findCleared_51 : decode (yB Y_Pa_findCleared) 51 = .ok (.imul, 1) := by decide +kernel
theorem d_Pa_findCleared_52 : decode (yB Y_Pa_findCleared) 52 = .ok (.iload 7, 2) := by decide +kernel
theorem d_Pa_findCleared_54 : decode (yB Y_Pa_findCleared) 54 = .ok (.iadd, 1) := by decide +kernel
theorem d_Pa_findCleared_55 : decode (yB Y_Pa_findCleared) 55 = .ok (.baload, 1) := by decide +kernel
theorem d_Pa_findCleared_56 : decode (yB Y_Pa_findCleared) 56 = .ok (.ifCond .eq 15, 3) := by decide +kernel
theorem d_Pa_findCleared_59 : decode (yB Y_Pa_findCleared) 59 = .ok (.iload 5, 2) := by decide +kernel
theorem d_Pa_findCleared_61 : decode (yB Y_Pa_findCleared) 61 = .ok (.iconst 1, 1) := by decide +kernel
theorem d_Pa_findCleared_62 : decode (yB Y_Pa_findCleared) 62 = .ok (.iload 6, 2) := by decide +kernel
theorem d_Pa_findCleared_64 : decode (yB Y_Pa_findCleared) 64 = .ok (.ishl, 1) := by decide +kernel
theorem d_Pa_findCleared_65 : decode (yB Y_Pa_findCleared) 65 = .ok (.ior, 1) := by decide +kernel
theorem d_Pa_findCleared_66 : decode (yB Y_Pa_findCleared) 66 = .ok (.istore 5, 2) := by decide +kernel
theorem d_Pa_findCleared_68 : decode (yB Y_Pa_findCleared) 68 = .ok (.goto 15, 3) := by decide +kernel
theorem d_Pa_findCleared_71 : decode (yB Y_Pa_findCleared) 71 = .ok (.iload 4, 2) := by decide +kernel
theorem d_Pa_findCleared_73 : decode (yB Y_Pa_findCleared) 73 = .ok (.aload_n 0, 1) := by decide +kernel
theorem d_Pa_findCleared_74 : decode (yB Y_Pa_findCleared) 74 = .ok (.getfield 18, 3) := by decide +kernel
theorem d_Pa_findCleared_77 : decode (yB Y_Pa_findCleared) 77 = .ok (.iload 6, 2) := by decide +kernel
theorem d_Pa_findCleared_79 : decode (yB Y_Pa_findCleared) 79 = .ok (.iaload, 1) := by decide +kernel
theorem d_Pa_findCleared_80 : decode (yB Y_Pa_findCleared) 80 = .ok (.iadd, 1) := by decide +kernel
theorem d_Pa_findCleared_81 : decode (yB Y_Pa_findCleared) 81 = .ok (.istore 4, 2) := by decide +kernel
theorem d_Pa_findCleared_83 : decode (yB Y_Pa_findCleared) 83 = .ok (.iinc 6 1, 3) := by decide +kernel
theorem d_Pa_findCleared_86 : decode (yB Y_Pa_findCleared) 86 = .ok (.goto (-77), 3) := by decide +kernel
theorem d_Pa_findCleared_89 : decode (yB Y_Pa_findCleared) 89 = .ok (.aload_n 0, 1) := by decide +kernel
theorem d_Pa_findCleared_90 : decode (yB Y_Pa_findCleared) 90 = .ok (.iconst 5, 1) := by decide +kernel
theorem d_Pa_findCleared_91 : decode (yB Y_Pa_findCleared) 91 = .ok (.putfield 38, 3) := by decide +kernel
theorem d_Pa_findCleared_94 : decode (yB Y_Pa_findCleared) 94 = .ok (.iconst 0, 1) := by decide +kernel
theorem d_Pa_findCleared_95 : decode (yB Y_Pa_findCleared) 95 = .ok (.istore 6, 2) := by decide +kernel
theorem d_Pa_findCleared_97 : decode (yB Y_Pa_findCleared) 97 = .ok (.iload 6, 2) := by decide +kernel
theorem d_Pa_findCleared_99 : decode (yB Y_Pa_findCleared) 99 = .ok (.bipush 16, 2) := by decide +kernel
theorem d_Pa_findCleared_101 : decode (yB Y_Pa_findCleared) 101 = .ok (.if_icmp .ge 71, 3) := by decide +kernel
theorem d_Pa_findCleared_104 : decode (yB Y_Pa_findCleared) 104 = .ok (.iload 6, 2) := by decide +kernel
theorem d_Pa_findCleared_106 : decode (yB Y_Pa_findCleared) 106 = .ok (.iload 5, 2) := by decide +kernel
theorem d_Pa_findCleared_108 : decode (yB Y_Pa_findCleared) 108 = .ok (.iconst (-1), 1) := by decide +kernel
theorem d_Pa_findCleared_109 : decode (yB Y_Pa_findCleared) 109 = .ok (.ixor, 1) := by decide +kernel
theorem d_Pa_findCleared_110 : decode (yB Y_Pa_findCleared) 110 = .ok (.iand, 1) := by decide +kernel
theorem d_Pa_findCleared_111 : decode (yB Y_Pa_findCleared) 111 = .ok (.ifCond .ne 7, 3) := by decide +kernel
theorem d_Pa_findCleared_114 : decode (yB Y_Pa_findCleared) 114 = .ok (.iconst 1, 1) := by decide +kernel
theorem d_Pa_findCleared_115 : decode (yB Y_Pa_findCleared) 115 = .ok (.goto 4, 3) := by decide +kernel
theorem d_Pa_findCleared_118 : decode (yB Y_Pa_findCleared) 118 = .ok (.iconst 0, 1) := by decide +kernel
theorem d_Pa_findCleared_119 : decode (yB Y_Pa_findCleared) 119 = .ok (.istore 7, 2) := by decide +kernel
theorem d_Pa_findCleared_121 : decode (yB Y_Pa_findCleared) 121 = .ok (.iload 7, 2) := by decide +kernel
theorem d_Pa_findCleared_123 : decode (yB Y_Pa_findCleared) 123 = .ok (.ifCond .eq 43, 3) := by decide +kernel
theorem d_Pa_findCleared_126 : decode (yB Y_Pa_findCleared) 126 = .ok (.iload 6, 2) := by decide +kernel
theorem d_Pa_findCleared_128 : decode (yB Y_Pa_findCleared) 128 = .ok (.invokestatic 174, 3) := by decide +kernel
theorem d_Pa_findCleared_131 : decode (yB Y_Pa_findCleared) 131 = .ok (.aload_n 0, 1) := by decide +kernel
theorem d_Pa_findCleared_132 : decode (yB Y_Pa_findCleared) 132 = .ok (.getfield 38, 3) := by decide +kernel
theorem d_Pa_findCleared_135 : decode (yB Y_Pa_findCleared) 135 = .ok (.if_icmp .ge 31, 3) := by decide +kernel
theorem d_Pa_findCleared_138 : decode (yB Y_Pa_findCleared) 138 = .ok (.iload 4, 2) := by decide +kernel
theorem d_Pa_findCleared_140 : decode (yB Y_Pa_findCleared) 140 = .ok (.aload_n 0, 1) := by decide +kernel
theorem d_Pa_findCleared_141 : decode (yB Y_Pa_findCleared) 141 = .ok (.iload 6, 2) := by decide +kernel
theorem d_Pa_findCleared_143 : decode (yB Y_Pa_findCleared) 143 = .ok (.invokevirtual 179, 3) := by decide +kernel
theorem d_Pa_findCleared_146 : decode (yB Y_Pa_findCleared) 146 = .ok (.iadd, 1) := by decide +kernel
theorem d_Pa_findCleared_147 : decode (yB Y_Pa_findCleared) 147 = .ok (.iload_n 3, 1) := by decide +kernel
theorem d_Pa_findCleared_148 : decode (yB Y_Pa_findCleared) 148 = .ok (.if_icmp .lt 18, 3) := by decide +kernel
theorem d_Pa_findCleared_151 : decode (yB Y_Pa_findCleared) 151 = .ok (.aload_n 0, 1) := by decide +kernel
theorem d_Pa_findCleared_152 : decode (yB Y_Pa_findCleared) 152 = .ok (.iload 6, 2) := by decide +kernel
theorem d_Pa_findCleared_154 : decode (yB Y_Pa_findCleared) 154 = .ok (.invokestatic 174, 3) := by decide +kernel
theorem d_Pa_findCleared_157 : decode (yB Y_Pa_findCleared) 157 = .ok (.putfield 38, 3) := by decide +kernel
theorem d_Pa_findCleared_160 : decode (yB Y_Pa_findCleared) 160 = .ok (.aload_n 0, 1) := by decide +kernel
theorem d_Pa_findCleared_161 : decode (yB Y_Pa_findCleared) 161 = .ok (.iload 6, 2) := by decide +kernel
theorem d_Pa_findCleared_163 : decode (yB Y_Pa_findCleared) 163 = .ok (.putfield 42, 3) := by decide +kernel
theorem d_Pa_findCleared_166 : decode (yB Y_Pa_findCleared) 166 = .ok (.iinc 6 1, 3) := by decide +kernel
theorem d_Pa_findCleared_169 : decode (yB Y_Pa_findCleared) 169 = .ok (.goto (-72), 3) := by decide +kernel
theorem d_Pa_findCleared_172 : decode (yB Y_Pa_findCleared) 172 = .ok (.aload_n 0, 1) := by decide +kernel
theorem d_Pa_findCleared_173 : decode (yB Y_Pa_findCleared) 173 = .ok (.getfield 38, 3) := by decide +kernel
theorem d_Pa_findCleared_176 : decode (yB Y_Pa_findCleared) 176 = .ok (.iconst 4, 1) := by decide +kernel
theorem d_Pa_findCleared_177 : decode (yB Y_Pa_findCleared) 177 = .ok (.if_icmp .gt 7, 3) := by decide +kernel
theorem d_Pa_findCleared_180 : decode (yB Y_Pa_findCleared) 180 = .ok (.iconst 1, 1) := by decide +kernel
theorem d_Pa_findCleared_181 : decode (yB Y_Pa_findCleared) 181 = .ok (.goto 4, 3) := by decide +kernel
theorem d_Pa_findCleared_184 : decode (yB Y_Pa_findCleared) 184 = .ok (.iconst 0, 1) := by decide +kernel
theorem d_Pa_findCleared_185 : decode (yB Y_Pa_findCleared) 185 = .ok (.ireturn, 1) := by decide +kernel
def F_Pa_findCleared_b83 (n : Nat) (E : zE) (S : zS) (r9 : Nat × Nat × Int32 × Int32 × Int32 × Int32 × Int32 × zH → Option (Bool × zH)) (a0 : Nat) (a1 : Nat) (x2 : Int32) (x3 : Int32) (x4 : Int32) (x5 : Int32) (x6 : Int32) (M : zH) : Option (Bool × zH) :=
  r9 (a0, a1, x2, x3, x4, x5, x6 + 1, M)
def F_Pa_findCleared_b166 (n : Nat) (E : zE) (S : zS) (r97 : Nat × Int32 × Int32 × Int32 × Int32 × zH → Option (Bool × zH)) (a0 : Nat) (x3 : Int32) (x4 : Int32) (x5 : Int32) (x6 : Int32) (M : zH) : Option (Bool × zH) :=
  r97 (a0, x3, x4, x5, x6 + 1, M)
def F_Pa_findCleared_b119 (n : Nat) (E : zE) (S : zS) (r97 : Nat × Int32 × Int32 × Int32 × Int32 × zH → Option (Bool × zH)) (a0 : Nat) (x3 : Int32) (x4 : Int32) (x5 : Int32) (x6 : Int32) (s0 : Int32) (M : zH) : Option (Bool × zH) :=
  if s0 = 0 then
    F_Pa_findCleared_b166 n E S r97 a0 x3 x4 x5 x6 M
  else
    (F_Ji_bitCount n E S x6 M).bind fun q_2 =>
    (zgI S q_2.2 a0 4 8).bind fun v_3 =>
    if v_3 ≤ q_2.1 then
      F_Pa_findCleared_b166 n E S r97 a0 x3 x4 x5 x6 q_2.2
    else
      (F_Pa_sharesOf n E S a0 x6 q_2.2).bind fun q_5 =>
      if (x4 + q_5.1) < x3 then
        F_Pa_findCleared_b166 n E S r97 a0 x3 x4 x5 x6 q_5.2
      else
        (F_Ji_bitCount n E S x6 q_5.2).bind fun q_7 =>
        (zpI S q_7.2 a0 4 8 q_7.1).bind fun m_8 =>
        (zpI S m_8 a0 4 9 x6).bind fun m_9 =>
        F_Pa_findCleared_b166 n E S r97 a0 x3 x4 x5 x6 m_9
def F_Pa_findCleared_L97 (n : Nat) (E : zE) (S : zS) (r97 : Nat × Int32 × Int32 × Int32 × Int32 × zH → Option (Bool × zH)) (a0 : Nat) (x3 : Int32) (x4 : Int32) (x5 : Int32) (x6 : Int32) (M : zH) : Option (Bool × zH) :=
  if 16 ≤ x6 then
    (zgI S M a0 4 8).bind fun v_11 =>
    if 4 < v_11 then
      some (false, M)
    else
      some (true, M)
  else
    if (x6 &&& (x5 ^^^ (-1 : Int32))) = 0 then
      F_Pa_findCleared_b119 n E S r97 a0 x3 x4 x5 x6 1 M
    else
      F_Pa_findCleared_b119 n E S r97 a0 x3 x4 x5 x6 0 M
def F_Pa_findCleared_b97 (n : Nat) (E : zE) (S : zS) : Nat × Int32 × Int32 × Int32 × Int32 × zH → Option (Bool × zH) := zfix (fun r97 s => F_Pa_findCleared_L97 n E S r97 s.1 s.2.1 s.2.2.1 s.2.2.2.1 s.2.2.2.2.1 s.2.2.2.2.2) n
def F_Pa_findCleared_L9 (n : Nat) (E : zE) (S : zS) (r9 : Nat × Nat × Int32 × Int32 × Int32 × Int32 × Int32 × zH → Option (Bool × zH)) (a0 : Nat) (a1 : Nat) (x2 : Int32) (x3 : Int32) (x4 : Int32) (x5 : Int32) (x6 : Int32) (M : zH) : Option (Bool × zH) :=
  if 4 ≤ x6 then
    (zpI S M a0 4 8 5).bind fun m_15 =>
    F_Pa_findCleared_b97 n E S (a0, x3, x4, x5, 0, m_15)
  else
    (zck S a1 3).bind fun u_16 =>
    (F_Ni_holeAbove n E S a1 x6 x2 M).bind fun q_17 =>
    (zgR S a0 4 2).bind fun b_18 =>
    (zgR S a0 4 0).bind fun b_19 =>
    (zck S b_19 1).bind fun u_20 =>
    (F_Ju_runsOf n E S b_19 a1 x6 q_17.1 q_17.2).bind fun q_21 =>
    (zstI S q_21.2 b_18 x6 q_21.1).bind fun m_22 =>
    (zgR S a1 3 1).bind fun b_23 =>
    (zldZ S m_22 b_23 ((x6 * 8) + q_17.1)).bind fun v_24 =>
    if v_24 = 0 then
      (zldI S m_22 b_18 x6).bind fun v_26 =>
      F_Pa_findCleared_b83 n E S r9 a0 a1 x2 x3 (x4 + v_26) x5 x6 m_22
    else
      F_Pa_findCleared_b83 n E S r9 a0 a1 x2 x3 x4 (x5 ||| ((1 : Int32) <<< (x6 &&& (31 : Int32)))) x6 m_22
def F_Pa_findCleared_b9 (n : Nat) (E : zE) (S : zS) : Nat × Nat × Int32 × Int32 × Int32 × Int32 × Int32 × zH → Option (Bool × zH) := zfix (fun r9 s => F_Pa_findCleared_L9 n E S r9 s.1 s.2.1 s.2.2.1 s.2.2.2.1 s.2.2.2.2.1 s.2.2.2.2.2.1 s.2.2.2.2.2.2.1 s.2.2.2.2.2.2.2) n
def F_Pa_findCleared (n : Nat) (E : zE) (S : zS) (a0 : Nat) (a1 : Nat) (x2 : Int32) (x3 : Int32) (M : zH) : Option (Bool × zH) :=
  F_Pa_findCleared_b9 n E S (a0, a1, x2, x3, 0, 0, 0, M)
theorem K_Pa_findCleared_b83 (n : Nat) (E : zE) (S : zS) (r9 : Nat × Nat × Int32 × Int32 × Int32 × Int32 × Int32 × zH → Option (Bool × zH)) (a0 : Nat) (a1 : Nat) (x2 : Int32) (x3 : Int32) (x4 : Int32) (x5 : Int32) (x6 : Int32) (M : zH) (r : Bool) (M' : zH) (hr9 : ∀ (a0 : Nat) (a1 : Nat) (x2 : Int32) (x3 : Int32) (x4 : Int32) (x5 : Int32) (x6 : Int32) (M : zH), r9 (a0, a1, x2, x3, x4, x5, x6, M) = some (r, M') → zG E Y_Pa_findCleared (some (.int (bI r)), S, M') 9 [(0, .ref a0), (1, .ref a1), (2, .int x2), (3, .int x3), (4, .int x4), (5, .int x5), (6, .int x6)] [] S M 0 0) (h : F_Pa_findCleared_b83 n E S r9 a0 a1 x2 x3 x4 x5 x6 M = some (r, M')) : zG E Y_Pa_findCleared (some (.int (bI r)), S, M') 83 [(0, .ref a0), (1, .ref a1), (2, .int x2), (3, .int x3), (4, .int x4), (5, .int x5), (6, .int x6)] [] S M 0 0 := by
  unfold F_Pa_findCleared_b83 at h
  refine zi_iinc 6 (x6 + 1) [(6, .int (x6 + 1)), (0, .ref a0), (1, .ref a1), (2, .int x2), (3, .int x3), (4, .int x4), (5, .int x5)] d_Pa_findCleared_83 rfl rfl (by decide) rfl ?_
  refine zi_goto (tgt := 9) d_Pa_findCleared_86 rfl ?_
  refine zi_lo [(0, .ref a0), (1, .ref a1), (2, .int x2), (3, .int x3), (4, .int x4), (5, .int x5), (6, .int (x6 + 1))] [1, 2, 3, 4, 5, 6, 0] rfl ?_
  exact hr9 a0 a1 x2 x3 x4 x5 (x6 + 1) M h
theorem K_Pa_findCleared_b166 (n : Nat) (E : zE) (S : zS) (r97 : Nat × Int32 × Int32 × Int32 × Int32 × zH → Option (Bool × zH)) (a0 : Nat) (x3 : Int32) (x4 : Int32) (x5 : Int32) (x6 : Int32) (M : zH) (r : Bool) (M' : zH) (hr97 : ∀ (a0 : Nat) (x3 : Int32) (x4 : Int32) (x5 : Int32) (x6 : Int32) (M : zH), r97 (a0, x3, x4, x5, x6, M) = some (r, M') → zG E Y_Pa_findCleared (some (.int (bI r)), S, M') 97 [(0, .ref a0), (3, .int x3), (4, .int x4), (5, .int x5), (6, .int x6)] [] S M 0 0) (h : F_Pa_findCleared_b166 n E S r97 a0 x3 x4 x5 x6 M = some (r, M')) : zG E Y_Pa_findCleared (some (.int (bI r)), S, M') 166 [(0, .ref a0), (3, .int x3), (4, .int x4), (5, .int x5), (6, .int x6)] [] S M 0 0 := by
  unfold F_Pa_findCleared_b166 at h
  refine zi_iinc 4 (x6 + 1) [(6, .int (x6 + 1)), (0, .ref a0), (3, .int x3), (4, .int x4), (5, .int x5)] d_Pa_findCleared_166 rfl rfl (by decide) rfl ?_
  refine zi_goto (tgt := 97) d_Pa_findCleared_169 rfl ?_
  refine zi_lo [(0, .ref a0), (3, .int x3), (4, .int x4), (5, .int x5), (6, .int (x6 + 1))] [1, 2, 3, 4, 0] rfl ?_
  exact hr97 a0 x3 x4 x5 (x6 + 1) M h
theorem K_Pa_findCleared_b119 (n : Nat) (E : zE) (S : zS) (r97 : Nat × Int32 × Int32 × Int32 × Int32 × zH → Option (Bool × zH)) (a0 : Nat) (x3 : Int32) (x4 : Int32) (x5 : Int32) (x6 : Int32) (s0 : Int32) (M : zH) (r : Bool) (M' : zH) (hr97 : ∀ (a0 : Nat) (x3 : Int32) (x4 : Int32) (x5 : Int32) (x6 : Int32) (M : zH), r97 (a0, x3, x4, x5, x6, M) = some (r, M') → zG E Y_Pa_findCleared (some (.int (bI r)), S, M') 97 [(0, .ref a0), (3, .int x3), (4, .int x4), (5, .int x5), (6, .int x6)] [] S M 0 0) (h : F_Pa_findCleared_b119 n E S r97 a0 x3 x4 x5 x6 s0 M = some (r, M')) : zG E Y_Pa_findCleared (some (.int (bI r)), S, M') 119 [(0, .ref a0), (3, .int x3), (4, .int x4), (5, .int x5), (6, .int x6)] [.int s0] S M 0 0 := by
  unfold F_Pa_findCleared_b119 at h
  refine zi_istore [(7, .int s0), (0, .ref a0), (3, .int x3), (4, .int x4), (5, .int x5), (6, .int x6)] d_Pa_findCleared_119 (by decide) rfl ?_
  refine zi_iload 0 d_Pa_findCleared_121 rfl ?_
  refine zi_if_eq (tgt := 166) d_Pa_findCleared_123 rfl (fun c_1 => ?_) (fun c_1 => ?_)
  · rw [if_pos c_1] at h
    refine zi_lo [(0, .ref a0), (3, .int x3), (4, .int x4), (5, .int x5), (6, .int x6)] [1, 2, 3, 4, 5] rfl ?_
    exact K_Pa_findCleared_b166 n E S r97 a0 x3 x4 x5 x6 M r M' hr97 h
  · rw [if_neg c_1] at h
    refine zi_iload 5 d_Pa_findCleared_126 rfl ?_
    obtain ⟨q_2, eq_2, h⟩ := zbind h
    refine zo_stat (k' := 0) (n' := 0) 131 [.int x6] [] [.int q_2.1] (C_Ji_bitCount n E S x6 M q_2.1 q_2.2 eq_2) d_Pa_findCleared_128 tw_1102 tw_1100 tw_1101 tw_21 dd_Ji_bitCount ⟨Nat.le_of_ble_eq_true rfl, Nat.le_of_ble_eq_true rfl, Nat.le_of_ble_eq_true rfl, Nat.le_of_ble_eq_true rfl⟩ (Nat.le_of_ble_eq_true rfl) rfl rfl rfl rfl ?_
    refine zi_aload_n 1 d_Pa_findCleared_131 rfl ?_
    obtain ⟨v_3, ev_3, h⟩ := zbind h
    refine zo_getI 135 zkd_4 8 d_Pa_findCleared_132 ev_3 rfl tw_306 rfl ?_
    refine zi_icmp_ge (tgt := 166) d_Pa_findCleared_135 rfl (fun c_4 => ?_) (fun c_4 => ?_)
    · rw [if_pos c_4] at h
      refine zi_lo [(0, .ref a0), (3, .int x3), (4, .int x4), (5, .int x5), (6, .int x6)] [1, 2, 3, 4, 5] rfl ?_
      exact K_Pa_findCleared_b166 n E S r97 a0 x3 x4 x5 x6 q_2.2 r M' hr97 h
    · rw [if_neg c_4] at h
      refine zi_iload 3 d_Pa_findCleared_138 rfl ?_
      refine zi_aload_n 1 d_Pa_findCleared_140 rfl ?_
      refine zi_iload 5 d_Pa_findCleared_141 rfl ?_
      obtain ⟨q_5, eq_5, h⟩ := zbind h
      refine zo_virt (k' := 0) (n' := 0) 146 [.int x6] [.int x4] [.int q_5.1, .int x4] zkd_4 (zgI_s ev_3).1 (C_Pa_sharesOf n E S a0 x6 q_2.2 q_5.1 q_5.2 eq_5) d_Pa_findCleared_143 tw_1109 tw_1106 tw_1108 ts_35 tw_12 dd_Pa_sharesOf ⟨Nat.le_of_ble_eq_true rfl, Nat.le_of_ble_eq_true rfl, Nat.le_of_ble_eq_true rfl, Nat.le_of_ble_eq_true rfl⟩ (Nat.le_of_ble_eq_true rfl) rfl rfl rfl rfl ?_
      refine zi_iadd d_Pa_findCleared_146 ?_
      refine zi_iload_n 2 d_Pa_findCleared_147 rfl ?_
      refine zi_icmp_lt (tgt := 166) d_Pa_findCleared_148 rfl (fun c_6 => ?_) (fun c_6 => ?_)
      · rw [if_pos c_6] at h
        refine zi_lo [(0, .ref a0), (3, .int x3), (4, .int x4), (5, .int x5), (6, .int x6)] [1, 2, 3, 4, 5] rfl ?_
        exact K_Pa_findCleared_b166 n E S r97 a0 x3 x4 x5 x6 q_5.2 r M' hr97 h
      · rw [if_neg c_6] at h
        refine zi_aload_n 1 d_Pa_findCleared_151 rfl ?_
        refine zi_iload 5 d_Pa_findCleared_152 rfl ?_
        obtain ⟨q_7, eq_7, h⟩ := zbind h
        refine zo_stat (k' := 0) (n' := 0) 157 [.int x6] [.ref a0] [.int q_7.1, .ref a0] (C_Ji_bitCount n E S x6 q_5.2 q_7.1 q_7.2 eq_7) d_Pa_findCleared_154 tw_1102 tw_1100 tw_1101 tw_21 dd_Ji_bitCount ⟨Nat.le_of_ble_eq_true rfl, Nat.le_of_ble_eq_true rfl, Nat.le_of_ble_eq_true rfl, Nat.le_of_ble_eq_true rfl⟩ (Nat.le_of_ble_eq_true rfl) rfl rfl rfl rfl ?_
        obtain ⟨m_8, em_8, h⟩ := zbind h
        refine zo_putI 160 zkd_4 8 d_Pa_findCleared_157 em_8 rfl rfl rfl tw_306 rfl ?_
        refine zi_aload_n 1 d_Pa_findCleared_160 rfl ?_
        refine zi_iload 5 d_Pa_findCleared_161 rfl ?_
        obtain ⟨m_9, em_9, h⟩ := zbind h
        refine zo_putI 166 zkd_4 9 d_Pa_findCleared_163 em_9 rfl rfl rfl tw_308 rfl ?_
        refine zi_lo [(0, .ref a0), (3, .int x3), (4, .int x4), (5, .int x5), (6, .int x6)] [1, 2, 3, 4, 5] rfl ?_
        exact K_Pa_findCleared_b166 n E S r97 a0 x3 x4 x5 x6 m_9 r M' hr97 h
theorem K_Pa_findCleared_L97 (n : Nat) (E : zE) (S : zS) (r97 : Nat × Int32 × Int32 × Int32 × Int32 × zH → Option (Bool × zH)) (a0 : Nat) (x3 : Int32) (x4 : Int32) (x5 : Int32) (x6 : Int32) (M : zH) (r : Bool) (M' : zH) (hr97 : ∀ (a0 : Nat) (x3 : Int32) (x4 : Int32) (x5 : Int32) (x6 : Int32) (M : zH), r97 (a0, x3, x4, x5, x6, M) = some (r, M') → zG E Y_Pa_findCleared (some (.int (bI r)), S, M') 97 [(0, .ref a0), (3, .int x3), (4, .int x4), (5, .int x5), (6, .int x6)] [] S M 0 0) (h : F_Pa_findCleared_L97 n E S r97 a0 x3 x4 x5 x6 M = some (r, M')) : zG E Y_Pa_findCleared (some (.int (bI r)), S, M') 97 [(0, .ref a0), (3, .int x3), (4, .int x4), (5, .int x5), (6, .int x6)] [] S M 0 0 := by
  unfold F_Pa_findCleared_L97 at h
  refine zi_iload 4 d_Pa_findCleared_97 rfl ?_
  refine zi_bipush 16 d_Pa_findCleared_99 rfl ?_
  refine zi_icmp_ge (tgt := 172) d_Pa_findCleared_101 rfl (fun c_10 => ?_) (fun c_10 => ?_)
  · rw [if_pos c_10] at h
    refine zi_aload_n 0 d_Pa_findCleared_172 rfl ?_
    obtain ⟨v_11, ev_11, h⟩ := zbind h
    refine zo_getI 176 zkd_4 8 d_Pa_findCleared_173 ev_11 rfl tw_306 rfl ?_
    refine zi_iconst 4 d_Pa_findCleared_176 rfl ?_
    refine zi_icmp_gt (tgt := 184) d_Pa_findCleared_177 rfl (fun c_12 => ?_) (fun c_12 => ?_)
    · rw [if_pos c_12] at h
      refine zi_iconst 0 d_Pa_findCleared_184 rfl ?_
      cases h
      exact zo_retB d_Pa_findCleared_185 (Nat.le_of_ble_eq_true rfl) (Nat.le_of_ble_eq_true rfl) rfl
    · rw [if_neg c_12] at h
      refine zi_iconst 1 d_Pa_findCleared_180 rfl ?_
      refine zi_goto (tgt := 185) d_Pa_findCleared_181 rfl ?_
      cases h
      exact zo_retB d_Pa_findCleared_185 (Nat.le_of_ble_eq_true rfl) (Nat.le_of_ble_eq_true rfl) rfl
  · rw [if_neg c_10] at h
    refine zi_iload 4 d_Pa_findCleared_104 rfl ?_
    refine zi_iload 3 d_Pa_findCleared_106 rfl ?_
    refine zi_iconst (-1) d_Pa_findCleared_108 rfl ?_
    refine zi_ixor d_Pa_findCleared_109 ?_
    refine zi_iand d_Pa_findCleared_110 ?_
    refine zi_if_ne (tgt := 118) d_Pa_findCleared_111 rfl (fun c_13 => ?_) (fun c_13 => ?_)
    · rw [if_neg c_13] at h
      refine zi_iconst 0 d_Pa_findCleared_118 rfl ?_
      refine zi_lo [(0, .ref a0), (3, .int x3), (4, .int x4), (5, .int x5), (6, .int x6)] [0, 1, 2, 3, 4] rfl ?_
      exact K_Pa_findCleared_b119 n E S r97 a0 x3 x4 x5 x6 0 M r M' hr97 h
    · rw [if_pos c_13] at h
      refine zi_iconst 1 d_Pa_findCleared_114 rfl ?_
      refine zi_goto (tgt := 119) d_Pa_findCleared_115 rfl ?_
      refine zi_lo [(0, .ref a0), (3, .int x3), (4, .int x4), (5, .int x5), (6, .int x6)] [0, 1, 2, 3, 4] rfl ?_
      exact K_Pa_findCleared_b119 n E S r97 a0 x3 x4 x5 x6 1 M r M' hr97 h
theorem K_Pa_findCleared_b97 (n : Nat) (E : zE) (S : zS) (a0 : Nat) (x3 : Int32) (x4 : Int32) (x5 : Int32) (x6 : Int32) (M : zH) (r : Bool) (M' : zH)  (h : F_Pa_findCleared_b97 n E S (a0, x3, x4, x5, x6, M) = some (r, M')) : zG E Y_Pa_findCleared (some (.int (bI r)), S, M') 97 [(0, .ref a0), (3, .int x3), (4, .int x4), (5, .int x5), (6, .int x6)] [] S M 0 0 := by
  have key : ∀ (k : Nat) (a0 : Nat) (x3 : Int32) (x4 : Int32) (x5 : Int32) (x6 : Int32) (M : zH), zfix (fun r97 s => F_Pa_findCleared_L97 n E S r97 s.1 s.2.1 s.2.2.1 s.2.2.2.1 s.2.2.2.2.1 s.2.2.2.2.2) k (a0, x3, x4, x5, x6, M) = some (r, M') → zG E Y_Pa_findCleared (some (.int (bI r)), S, M') 97 [(0, .ref a0), (3, .int x3), (4, .int x4), (5, .int x5), (6, .int x6)] [] S M 0 0 := by
    intro k
    induction k with
    | zero => intro a0 x3 x4 x5 x6 M h; cases h
    | succ k ih => intro a0 x3 x4 x5 x6 M h; exact K_Pa_findCleared_L97 n E S _ a0 x3 x4 x5 x6 M r M'  (fun a0 x3 x4 x5 x6 M h => ih a0 x3 x4 x5 x6 M h) h
  exact key n a0 x3 x4 x5 x6 M h
theorem K_Pa_findCleared_L9 (n : Nat) (E : zE) (S : zS) (r9 : Nat × Nat × Int32 × Int32 × Int32 × Int32 × Int32 × zH → Option (Bool × zH)) (a0 : Nat) (a1 : Nat) (x2 : Int32) (x3 : Int32) (x4 : Int32) (x5 : Int32) (x6 : Int32) (M : zH) (r : Bool) (M' : zH) (hr9 : ∀ (a0 : Nat) (a1 : Nat) (x2 : Int32) (x3 : Int32) (x4 : Int32) (x5 : Int32) (x6 : Int32) (M : zH), r9 (a0, a1, x2, x3, x4, x5, x6, M) = some (r, M') → zG E Y_Pa_findCleared (some (.int (bI r)), S, M') 9 [(0, .ref a0), (1, .ref a1), (2, .int x2), (3, .int x3), (4, .int x4), (5, .int x5), (6, .int x6)] [] S M 0 0) (h : F_Pa_findCleared_L9 n E S r9 a0 a1 x2 x3 x4 x5 x6 M = some (r, M')) : zG E Y_Pa_findCleared (some (.int (bI r)), S, M') 9 [(0, .ref a0), (1, .ref a1), (2, .int x2), (3, .int x3), (4, .int x4), (5, .int x5), (6, .int x6)] [] S M 0 0 := by
  unfold F_Pa_findCleared_L9 at h
  refine zi_iload 6 d_Pa_findCleared_9 rfl ?_
  refine zi_iconst 4 d_Pa_findCleared_11 rfl ?_
  refine zi_icmp_ge (tgt := 89) d_Pa_findCleared_12 rfl (fun c_14 => ?_) (fun c_14 => ?_)
  · rw [if_pos c_14] at h
    refine zi_aload_n 0 d_Pa_findCleared_89 rfl ?_
    refine zi_iconst 5 d_Pa_findCleared_90 rfl ?_
    obtain ⟨m_15, em_15, h⟩ := zbind h
    refine zo_putI 94 zkd_4 8 d_Pa_findCleared_91 em_15 rfl rfl rfl tw_306 rfl ?_
    refine zi_iconst 0 d_Pa_findCleared_94 rfl ?_
    refine zi_istore [(6, .int 0), (0, .ref a0), (1, .ref a1), (2, .int x2), (3, .int x3), (4, .int x4), (5, .int x5)] d_Pa_findCleared_95 (by decide) rfl ?_
    refine zi_lo [(0, .ref a0), (3, .int x3), (4, .int x4), (5, .int x5), (6, .int 0)] [1, 4, 5, 6, 0] rfl ?_
    exact K_Pa_findCleared_b97 n E S a0 x3 x4 x5 0 m_15 r M'  h
  · rw [if_neg c_14] at h
    refine zi_aload_n 1 d_Pa_findCleared_15 rfl ?_
    refine zi_iload 6 d_Pa_findCleared_16 rfl ?_
    refine zi_iload_n 2 d_Pa_findCleared_18 rfl ?_
    obtain ⟨u_16, eu_16, h⟩ := zbind h
    obtain ⟨q_17, eq_17, h⟩ := zbind h
    refine zo_virt (k' := 0) (n' := 0) 22 [.int x6, .int x2] [] [.int q_17.1] zkd_3 (zck_s eu_16) (C_Ni_holeAbove n E S a1 x6 x2 M q_17.1 q_17.2 eq_17) d_Pa_findCleared_19 tw_516 tw_1098 tw_514 tw_515 tw_2 dd_Ni_holeAbove ⟨Nat.le_of_ble_eq_true rfl, Nat.le_of_ble_eq_true rfl, Nat.le_of_ble_eq_true rfl, Nat.le_of_ble_eq_true rfl⟩ (Nat.le_of_ble_eq_true rfl) rfl rfl rfl rfl ?_
    refine zi_istore [(7, .int q_17.1), (0, .ref a0), (1, .ref a1), (2, .int x2), (3, .int x3), (4, .int x4), (5, .int x5), (6, .int x6)] d_Pa_findCleared_22 (by decide) rfl ?_
    refine zi_aload_n 1 d_Pa_findCleared_24 rfl ?_
    obtain ⟨b_18, eb_18, h⟩ := zbind h
    refine zo_getR 28 zkd_4 2 d_Pa_findCleared_25 eb_18 rfl tw_300 rfl ?_
    refine zi_iload 7 d_Pa_findCleared_28 rfl ?_
    refine zi_aload_n 1 d_Pa_findCleared_30 rfl ?_
    obtain ⟨b_19, eb_19, h⟩ := zbind h
    refine zo_getR 34 zkd_4 0 d_Pa_findCleared_31 eb_19 rfl tw_298 rfl ?_
    refine zi_aload_n 2 d_Pa_findCleared_34 rfl ?_
    refine zi_iload 7 d_Pa_findCleared_35 rfl ?_
    refine zi_iload 0 d_Pa_findCleared_37 rfl ?_
    obtain ⟨u_20, eu_20, h⟩ := zbind h
    obtain ⟨q_21, eq_21, h⟩ := zbind h
    refine zo_virt (k' := 0) (n' := 0) 42 [.ref a1, .int x6, .int q_17.1] [.int x6, .ref b_18] [.int q_21.1, .int x6, .ref b_18] zkd_1 (zck_s eu_20) (C_Ju_runsOf n E S b_19 a1 x6 q_17.1 q_17.2 q_21.1 q_21.2 eq_21) d_Pa_findCleared_39 tw_413 tw_1099 tw_411 tw_412 tw_8 dd_Ju_runsOf ⟨Nat.le_of_ble_eq_true rfl, Nat.le_of_ble_eq_true rfl, Nat.le_of_ble_eq_true rfl, Nat.le_of_ble_eq_true rfl⟩ (Nat.le_of_ble_eq_true rfl) rfl rfl rfl rfl ?_
    obtain ⟨m_22, em_22, h⟩ := zbind h
    refine zo_iast 43 d_Pa_findCleared_42 em_22 rfl ?_
    refine zi_aload_n 2 d_Pa_findCleared_43 rfl ?_
    obtain ⟨b_23, eb_23, h⟩ := zbind h
    refine zo_getR 47 zkd_3 1 d_Pa_findCleared_44 eb_23 rfl tw_51 rfl ?_
    refine zi_iload 7 d_Pa_findCleared_47 rfl ?_
    refine zi_bipush 8 d_Pa_findCleared_49 rfl ?_
    refine zi_imul d_Pa_findCleared_51 ?_
    refine zi_iload 0 d_Pa_findCleared_52 rfl ?_
    refine zi_iadd d_Pa_findCleared_54 ?_
    obtain ⟨v_24, ev_24, h⟩ := zbind h
    refine zo_zald 56 d_Pa_findCleared_55 ev_24 rfl ?_
    refine zi_if_eq (tgt := 71) d_Pa_findCleared_56 rfl (fun c_25 => ?_) (fun c_25 => ?_)
    · rw [if_pos c_25] at h
      refine zi_iload 5 d_Pa_findCleared_71 rfl ?_
      refine zi_aload_n 1 d_Pa_findCleared_73 rfl ?_
      refine zo_getR 77 zkd_4 2 d_Pa_findCleared_74 eb_18 rfl tw_300 rfl ?_
      refine zi_iload 7 d_Pa_findCleared_77 rfl ?_
      obtain ⟨v_26, ev_26, h⟩ := zbind h
      refine zo_iald 80 d_Pa_findCleared_79 ev_26 rfl ?_
      refine zi_iadd d_Pa_findCleared_80 ?_
      refine zi_istore [(4, .int (x4 + v_26)), (7, .int q_17.1), (0, .ref a0), (1, .ref a1), (2, .int x2), (3, .int x3), (5, .int x5), (6, .int x6)] d_Pa_findCleared_81 (by decide) rfl ?_
      refine zi_lo [(0, .ref a0), (1, .ref a1), (2, .int x2), (3, .int x3), (4, .int (x4 + v_26)), (5, .int x5), (6, .int x6)] [2, 3, 4, 5, 0, 6, 7] rfl ?_
      exact K_Pa_findCleared_b83 n E S r9 a0 a1 x2 x3 (x4 + v_26) x5 x6 m_22 r M' hr9 h
    · rw [if_neg c_25] at h
      refine zi_iload 6 d_Pa_findCleared_59 rfl ?_
      refine zi_iconst 1 d_Pa_findCleared_61 rfl ?_
      refine zi_iload 7 d_Pa_findCleared_62 rfl ?_
      refine zi_ishl d_Pa_findCleared_64 ?_
      refine zi_ior d_Pa_findCleared_65 ?_
      refine zi_istore [(5, .int (x5 ||| ((1 : Int32) <<< (x6 &&& (31 : Int32))))), (7, .int q_17.1), (0, .ref a0), (1, .ref a1), (2, .int x2), (3, .int x3), (4, .int x4), (6, .int x6)] d_Pa_findCleared_66 (by decide) rfl ?_
      refine zi_goto (tgt := 83) d_Pa_findCleared_68 rfl ?_
      refine zi_lo [(0, .ref a0), (1, .ref a1), (2, .int x2), (3, .int x3), (4, .int x4), (5, .int (x5 ||| ((1 : Int32) <<< (x6 &&& (31 : Int32))))), (6, .int x6)] [2, 3, 4, 5, 6, 0, 7] rfl ?_
      exact K_Pa_findCleared_b83 n E S r9 a0 a1 x2 x3 x4 (x5 ||| ((1 : Int32) <<< (x6 &&& (31 : Int32)))) x6 m_22 r M' hr9 h
theorem K_Pa_findCleared_b9 (n : Nat) (E : zE) (S : zS) (a0 : Nat) (a1 : Nat) (x2 : Int32) (x3 : Int32) (x4 : Int32) (x5 : Int32) (x6 : Int32) (M : zH) (r : Bool) (M' : zH)  (h : F_Pa_findCleared_b9 n E S (a0, a1, x2, x3, x4, x5, x6, M) = some (r, M')) : zG E Y_Pa_findCleared (some (.int (bI r)), S, M') 9 [(0, .ref a0), (1, .ref a1), (2, .int x2), (3, .int x3), (4, .int x4), (5, .int x5), (6, .int x6)] [] S M 0 0 := by
  have key : ∀ (k : Nat) (a0 : Nat) (a1 : Nat) (x2 : Int32) (x3 : Int32) (x4 : Int32) (x5 : Int32) (x6 : Int32) (M : zH), zfix (fun r9 s => F_Pa_findCleared_L9 n E S r9 s.1 s.2.1 s.2.2.1 s.2.2.2.1 s.2.2.2.2.1 s.2.2.2.2.2.1 s.2.2.2.2.2.2.1 s.2.2.2.2.2.2.2) k (a0, a1, x2, x3, x4, x5, x6, M) = some (r, M') → zG E Y_Pa_findCleared (some (.int (bI r)), S, M') 9 [(0, .ref a0), (1, .ref a1), (2, .int x2), (3, .int x3), (4, .int x4), (5, .int x5), (6, .int x6)] [] S M 0 0 := by
    intro k
    induction k with
    | zero => intro a0 a1 x2 x3 x4 x5 x6 M h; cases h
    | succ k ih => intro a0 a1 x2 x3 x4 x5 x6 M h; exact K_Pa_findCleared_L9 n E S _ a0 a1 x2 x3 x4 x5 x6 M r M'  (fun a0 a1 x2 x3 x4 x5 x6 M h => ih a0 a1 x2 x3 x4 x5 x6 M h) h
  exact key n a0 a1 x2 x3 x4 x5 x6 M h
theorem K_Pa_findCleared (n : Nat) (E : zE) (S : zS) (a0 : Nat) (a1 : Nat) (x2 : Int32) (x3 : Int32) (M : zH) (r : Bool) (M' : zH)  (h : F_Pa_findCleared n E S a0 a1 x2 x3 M = some (r, M')) : zG E Y_Pa_findCleared (some (.int (bI r)), S, M') 0 [(0, .ref a0), (1, .ref a1), (2, .int x2), (3, .int x3)] [] S M 0 0 := by
  unfold F_Pa_findCleared at h
  refine zi_iconst 0 d_Pa_findCleared_0 rfl ?_
  refine zi_istore [(4, .int 0), (0, .ref a0), (1, .ref a1), (2, .int x2), (3, .int x3)] d_Pa_findCleared_1 (by decide) rfl ?_
  refine zi_iconst 0 d_Pa_findCleared_3 rfl ?_
  refine zi_istore [(5, .int 0), (4, .int 0), (0, .ref a0), (1, .ref a1), (2, .int x2), (3, .int x3)] d_Pa_findCleared_4 (by decide) rfl ?_
  refine zi_iconst 0 d_Pa_findCleared_6 rfl ?_
  refine zi_istore [(6, .int 0), (5, .int 0), (4, .int 0), (0, .ref a0), (1, .ref a1), (2, .int x2), (3, .int x3)] d_Pa_findCleared_7 (by decide) rfl ?_
  refine zi_lo [(0, .ref a0), (1, .ref a1), (2, .int x2), (3, .int x3), (4, .int 0), (5, .int 0), (6, .int 0)] [3, 4, 5, 6, 2, 1, 0] rfl ?_
  exact K_Pa_findCleared_b9 n E S a0 a1 x2 x3 0 0 0 M r M'  h
theorem C_Pa_findCleared (n : Nat) (E : zE) (S : zS) (a0 : Nat) (a1 : Nat) (x2 : Int32) (x3 : Int32) (M : zH) (r : Bool) (M' : zH) (h : F_Pa_findCleared n E S a0 a1 x2 x3 M = some (r, M')) : zC E Y_Pa_findCleared [.ref a0, .ref a1, .int x2, .int x3] S M (some (.int (bI r)), S, M') :=
  zC.of (Or.inl (show plainName "NightColander$Paper" = true by decide)) (Nat.le_of_ble_eq_true rfl) (bI_nar r) (K_Pa_findCleared n E S a0 a1 x2 x3 M r M' h)
theorem d_NC_cleared_0 : decode (yB Y_NC_cleared) 0 = .ok (.iload_n 1, 1) := by decide +kernel
theorem d_NC_cleared_1 : decode (yB Y_NC_cleared) 1 = .ok (.invokestatic 149, 3) := by decide +kernel
theorem d_NC_cleared_4 : decode (yB Y_NC_cleared) 4 = .ok (.ifCond .eq 23, 3) := by decide +kernel
theorem d_NC_cleared_7 : decode (yB Y_NC_cleared) 7 = .ok (.iload_n 2, 1) := by decide +kernel
theorem d_NC_cleared_8 : decode (yB Y_NC_cleared) 8 = .ok (.iconst 0, 1) := by decide +kernel
theorem d_NC_cleared_9 : decode (yB Y_NC_cleared) 9 = .ok (.sipush 400, 3) := by decide +kernel
theorem d_NC_cleared_12 : decode (yB Y_NC_cleared) 12 = .ok (.invokestatic 132, 3) := by decide +kernel
theorem d_NC_cleared_15 : decode (yB Y_NC_cleared) 15 = .ok (.ifCond .eq 12, 3) := by decide +kernel
theorem d_NC_cleared_18 : decode (yB Y_NC_cleared) 18 = .ok (.iload_n 3, 1) := by decide +kernel
theorem d_NC_cleared_19 : decode (yB Y_NC_cleared) 19 = .ok (.iconst 0, 1) := by decide +kernel
theorem d_NC_cleared_20 : decode (yB Y_NC_cleared) 20 = .ok (.iconst 1, 1) := by decide +kernel
theorem d_NC_cleared_21 : decode (yB Y_NC_cleared) 21 = .ok (.invokestatic 132, 3) := by decide +kernel
theorem d_NC_cleared_24 : decode (yB Y_NC_cleared) 24 = .ok (.ifCond .ne 5, 3) := by decide +kernel
theorem d_NC_cleared_27 : decode (yB Y_NC_cleared) 27 = .ok (.iconst (-1), 1) := by decide +kernel
theorem d_NC_cleared_28 : decode (yB Y_NC_cleared) 28 = .ok (.ireturn, 1) := by decide +kernel
theorem d_NC_cleared_29 : decode (yB Y_NC_cleared) 29 = .ok (.aload_n 0, 1) := by decide +kernel
theorem d_NC_cleared_30 : decode (yB Y_NC_cleared) 30 = .ok (.getfield 86, 3) := by decide +kernel
theorem d_NC_cleared_33 : decode (yB Y_NC_cleared) 33 = .ok (.aload_n 0, 1) := by decide +kernel
theorem d_NC_cleared_34 : decode (yB Y_NC_cleared) 34 = .ok (.getfield 12, 3) := by decide +kernel
theorem d_NC_cleared_37 : decode (yB Y_NC_cleared) 37 = .ok (.iload_n 1, 1) := by decide +kernel
theorem d_NC_cleared_38 : decode (yB Y_NC_cleared) 38 = .ok (.iload_n 2, 1) := by decide +kernel
theorem d_NC_cleared_39 : decode (yB Y_NC_cleared) 39 = .ok (.invokevirtual 292, 3) := by decide +kernel
theorem d_NC_cleared_42 : decode (yB Y_NC_cleared) 42 = .ok (.ifCond .ne 5, 3) := by decide +kernel
theorem d_NC_cleared_45 : decode (yB Y_NC_cleared) 45 = .ok (.iconst (-1), 1) := by decide +kernel
theorem d_NC_cleared_46 : decode (yB Y_NC_cleared) 46 = .ok (.ireturn, 1) := by decide +kernel
theorem d_NC_cleared_47 : decode (yB Y_NC_cleared) 47 = .ok (.iload_n 3, 1) := by decide +kernel
theorem d_NC_cleared_48 : decode (yB Y_NC_cleared) 48 = .ok (.ifCond .ne 13, 3) := by decide +kernel
theorem d_NC_cleared_51 : decode (yB Y_NC_cleared) 51 = .ok (.aload_n 0, 1) := by decide +kernel
theorem d_NC_cleared_52 : decode (yB Y_NC_cleared) 52 = .ok (.getfield 86, 3) := by decide +kernel
theorem d_NC_cleared_55 : decode (yB Y_NC_cleared) 55 = .ok (.getfield 267, 3) := by decide +kernel
theorem d_NC_cleared_58 : decode (yB Y_NC_cleared) 58 = .ok (.goto 10, 3) := by decide +kernel
theorem d_NC_cleared_61 : decode (yB Y_NC_cleared) 61 = .ok (.aload_n 0, 1) := by decide +kernel
theorem d_NC_cleared_62 : decode (yB Y_NC_cleared) 62 = .ok (.getfield 86, 3) := by decide +kernel
theorem d_NC_cleared_65 : decode (yB Y_NC_cleared) 65 = .ok (.getfield 286, 3) := by decide +kernel
theorem d_NC_cleared_68 : decode (yB Y_NC_cleared) 68 = .ok (.ireturn, 1) := by decide +kernel
def F_NC_cleared (n : Nat) (E : zE) (S : zS) (a0 : Nat) (x1 : Int32) (x2 : Int32) (x3 : Int32) (M : zH) : Option (Int32 × zH) :=
  (F_NC_isField n E S x1 M).bind fun q_1 =>
  if q_1.1 = true then
    (F_NC_within n E S x2 0 400 q_1.2).bind fun q_3 =>
    if q_3.1 = true then
      (F_NC_within n E S x3 0 1 q_3.2).bind fun q_5 =>
      if q_5.1 = true then
        (zgR S a0 10 12).bind fun b_7 =>
        (zgR S a0 10 0).bind fun b_8 =>
        (zck S b_7 4).bind fun u_9 =>
        (F_Pa_findCleared n E S b_7 b_8 x1 x2 q_5.2).bind fun q_10 =>
        if q_10.1 = true then
          if x3 = 0 then
            (zgI S q_10.2 b_7 4 8).bind fun v_13 =>
            some (v_13, q_10.2)
          else
            (zgI S q_10.2 b_7 4 9).bind fun v_14 =>
            some (v_14, q_10.2)
        else
          some ((-1), q_10.2)
      else
        some ((-1), q_5.2)
    else
      some ((-1), q_3.2)
  else
    some ((-1), q_1.2)
theorem K_NC_cleared (n : Nat) (E : zE) (S : zS) (a0 : Nat) (x1 : Int32) (x2 : Int32) (x3 : Int32) (M : zH) (r : Int32) (M' : zH)  (h : F_NC_cleared n E S a0 x1 x2 x3 M = some (r, M')) : zG E Y_NC_cleared (some (.int r), S, M') 0 [(0, .ref a0), (1, .int x1), (2, .int x2), (3, .int x3)] [] S M 0 0 := by
  unfold F_NC_cleared at h
  refine zi_iload_n 1 d_NC_cleared_0 rfl ?_
  obtain ⟨q_1, eq_1, h⟩ := zbind h
  refine zo_stat (k' := 0) (n' := 0) 4 [.int x1] [] [.int (bI q_1.1)] (C_NC_isField n E S x1 M q_1.1 q_1.2 eq_1) d_NC_cleared_1 tw_463 tw_461 tw_462 tw_1 dd_NC_isField ⟨Nat.le_of_ble_eq_true rfl, Nat.le_of_ble_eq_true rfl, Nat.le_of_ble_eq_true rfl, Nat.le_of_ble_eq_true rfl⟩ (Nat.le_of_ble_eq_true rfl) rfl rfl rfl rfl ?_
  refine zo_ifeqB d_NC_cleared_4 rfl 7 rfl (fun c_2 => ?_) (fun c_2 => ?_)
  · rw [if_neg c_2] at h
    refine zi_iconst (-1) d_NC_cleared_27 rfl ?_
    cases h
    exact zo_ret d_NC_cleared_28 (Nat.le_of_ble_eq_true rfl) (Nat.le_of_ble_eq_true rfl) rfl
  · rw [if_pos c_2] at h
    refine zi_iload_n 2 d_NC_cleared_7 rfl ?_
    refine zi_iconst 0 d_NC_cleared_8 rfl ?_
    refine zi_sipush 400 d_NC_cleared_9 rfl ?_
    obtain ⟨q_3, eq_3, h⟩ := zbind h
    refine zo_stat (k' := 0) (n' := 0) 15 [.int x2, .int 0, .int 400] [] [.int (bI q_3.1)] (C_NC_within n E S x2 0 400 q_1.2 q_3.1 q_3.2 eq_3) d_NC_cleared_12 tw_399 tw_397 tw_398 tw_1 dd_NC_within ⟨Nat.le_of_ble_eq_true rfl, Nat.le_of_ble_eq_true rfl, Nat.le_of_ble_eq_true rfl, Nat.le_of_ble_eq_true rfl⟩ (Nat.le_of_ble_eq_true rfl) rfl rfl rfl rfl ?_
    refine zo_ifeqB d_NC_cleared_15 rfl 18 rfl (fun c_4 => ?_) (fun c_4 => ?_)
    · rw [if_neg c_4] at h
      refine zi_iconst (-1) d_NC_cleared_27 rfl ?_
      cases h
      exact zo_ret d_NC_cleared_28 (Nat.le_of_ble_eq_true rfl) (Nat.le_of_ble_eq_true rfl) rfl
    · rw [if_pos c_4] at h
      refine zi_iload_n 3 d_NC_cleared_18 rfl ?_
      refine zi_iconst 0 d_NC_cleared_19 rfl ?_
      refine zi_iconst 1 d_NC_cleared_20 rfl ?_
      obtain ⟨q_5, eq_5, h⟩ := zbind h
      refine zo_stat (k' := 0) (n' := 0) 24 [.int x3, .int 0, .int 1] [] [.int (bI q_5.1)] (C_NC_within n E S x3 0 1 q_3.2 q_5.1 q_5.2 eq_5) d_NC_cleared_21 tw_399 tw_397 tw_398 tw_1 dd_NC_within ⟨Nat.le_of_ble_eq_true rfl, Nat.le_of_ble_eq_true rfl, Nat.le_of_ble_eq_true rfl, Nat.le_of_ble_eq_true rfl⟩ (Nat.le_of_ble_eq_true rfl) rfl rfl rfl rfl ?_
      refine zo_ifneB d_NC_cleared_24 rfl 27 rfl (fun c_6 => ?_) (fun c_6 => ?_)
      · rw [if_pos c_6] at h
        refine zi_aload_n 0 d_NC_cleared_29 rfl ?_
        obtain ⟨b_7, eb_7, h⟩ := zbind h
        refine zo_getR 33 zkd_10 12 d_NC_cleared_30 eb_7 rfl tw_344 rfl ?_
        refine zi_aload_n 0 d_NC_cleared_33 rfl ?_
        obtain ⟨b_8, eb_8, h⟩ := zbind h
        refine zo_getR 37 zkd_10 0 d_NC_cleared_34 eb_8 rfl tw_332 rfl ?_
        refine zi_iload_n 1 d_NC_cleared_37 rfl ?_
        refine zi_iload_n 2 d_NC_cleared_38 rfl ?_
        obtain ⟨u_9, eu_9, h⟩ := zbind h
        obtain ⟨q_10, eq_10, h⟩ := zbind h
        refine zo_virt (k' := 0) (n' := 0) 42 [.ref b_8, .int x1, .int x2] [] [.int (bI q_10.1)] zkd_4 (zck_s eu_9) (C_Pa_findCleared n E S b_7 b_8 x1 x2 q_5.2 q_10.1 q_10.2 eq_10) d_NC_cleared_39 tw_1097 tw_1094 tw_1095 tw_1096 tw_12 dd_Pa_findCleared ⟨Nat.le_of_ble_eq_true rfl, Nat.le_of_ble_eq_true rfl, Nat.le_of_ble_eq_true rfl, Nat.le_of_ble_eq_true rfl⟩ (Nat.le_of_ble_eq_true rfl) rfl rfl rfl rfl ?_
        refine zo_ifneB d_NC_cleared_42 rfl 45 rfl (fun c_11 => ?_) (fun c_11 => ?_)
        · rw [if_pos c_11] at h
          refine zi_iload_n 3 d_NC_cleared_47 rfl ?_
          refine zi_if_ne (tgt := 61) d_NC_cleared_48 rfl (fun c_12 => ?_) (fun c_12 => ?_)
          · rw [if_neg c_12] at h
            refine zi_aload_n 0 d_NC_cleared_61 rfl ?_
            refine zo_getR 65 zkd_10 12 d_NC_cleared_62 eb_7 rfl tw_344 rfl ?_
            obtain ⟨v_14, ev_14, h⟩ := zbind h
            refine zo_getI 68 zkd_4 9 d_NC_cleared_65 ev_14 rfl tw_309 rfl ?_
            cases h
            exact zo_ret d_NC_cleared_68 (Nat.le_of_ble_eq_true rfl) (Nat.le_of_ble_eq_true rfl) rfl
          · rw [if_pos c_12] at h
            refine zi_aload_n 0 d_NC_cleared_51 rfl ?_
            refine zo_getR 55 zkd_10 12 d_NC_cleared_52 eb_7 rfl tw_344 rfl ?_
            obtain ⟨v_13, ev_13, h⟩ := zbind h
            refine zo_getI 58 zkd_4 8 d_NC_cleared_55 ev_13 rfl tw_307 rfl ?_
            refine zi_goto (tgt := 68) d_NC_cleared_58 rfl ?_
            cases h
            exact zo_ret d_NC_cleared_68 (Nat.le_of_ble_eq_true rfl) (Nat.le_of_ble_eq_true rfl) rfl
        · rw [if_neg c_11] at h
          refine zi_iconst (-1) d_NC_cleared_45 rfl ?_
          cases h
          exact zo_ret d_NC_cleared_46 (Nat.le_of_ble_eq_true rfl) (Nat.le_of_ble_eq_true rfl) rfl
      · rw [if_neg c_6] at h
        refine zi_iconst (-1) d_NC_cleared_27 rfl ?_
        cases h
        exact zo_ret d_NC_cleared_28 (Nat.le_of_ble_eq_true rfl) (Nat.le_of_ble_eq_true rfl) rfl
theorem C_NC_cleared (n : Nat) (E : zE) (S : zS) (a0 : Nat) (x1 : Int32) (x2 : Int32) (x3 : Int32) (M : zH) (r : Int32) (M' : zH) (h : F_NC_cleared n E S a0 x1 x2 x3 M = some (r, M')) : zC E Y_NC_cleared [.ref a0, .int x1, .int x2, .int x3] S M (some (.int r), S, M') :=
  zC.of (Or.inl (show plainName "NightColander" = true by decide)) (Nat.le_of_ble_eq_true rfl) (trivial) (K_NC_cleared n E S a0 x1 x2 x3 M r M' h)
theorem d_Pa_longestDrought_0 : decode (yB Y_Pa_longestDrought) 0 = .ok (.aload_n 0, 1) := by decide +kernel
theorem d_Pa_longestDrought_1 : decode (yB Y_Pa_longestDrought) 1 = .ok (.getfield 12, 3) := by decide +kernel
theorem d_Pa_longestDrought_4 : decode (yB Y_Pa_longestDrought) 4 = .ok (.aload_n 1, 1) := by decide +kernel
theorem d_Pa_longestDrought_5 : decode (yB Y_Pa_longestDrought) 5 = .ok (.invokevirtual 53, 3) := by decide +kernel
theorem d_Pa_longestDrought_8 : decode (yB Y_Pa_longestDrought) 8 = .ok (.iconst 0, 1) := by decide +kernel
theorem d_Pa_longestDrought_9 : decode (yB Y_Pa_longestDrought) 9 = .ok (.istore_n 3, 1) := by decide +kernel
theorem d_Pa_longestDrought_10 : decode (yB Y_Pa_longestDrought) 10 = .ok (.iconst 0, 1) := by decide +kernel
theorem d_Pa_longestDrought_11 : decode (yB Y_Pa_longestDrought) 11 = .ok (.istore 4, 2) := by decide +kernel
theorem d_Pa_longestDrought_13 : decode (yB Y_Pa_longestDrought) 13 = .ok (.iconst 0, 1) := by decide +kernel
theorem d_Pa_longestDrought_14 : decode (yB Y_Pa_longestDrought) 14 = .ok (.istore 5, 2) := by decide +kernel
theorem d_Pa_longestDrought_16 : decode (yB Y_Pa_longestDrought) 16 = .ok (.iload 5, 2) := by decide +kernel
theorem d_Pa_longestDrought_18 : decode (yB Y_Pa_longestDrought) 18 = .ok (.bipush 60, 2) := by decide +kernel
theorem d_Pa_longestDrought_20 : decode (yB Y_Pa_longestDrought) 20 = .ok (.if_icmp .ge 49, 3) := by decide +kernel
theorem d_Pa_longestDrought_23 : decode (yB Y_Pa_longestDrought) 23 = .ok (.aload_n 0, 1) := by decide +kernel
theorem d_Pa_longestDrought_24 : decode (yB Y_Pa_longestDrought) 24 = .ok (.getfield 45, 3) := by decide +kernel
theorem d_Pa_longestDrought_27 : decode (yB Y_Pa_longestDrought) 27 = .ok (.aload_n 0, 1) := by decide +kernel
theorem d_Pa_longestDrought_28 : decode (yB Y_Pa_longestDrought) 28 = .ok (.getfield 12, 3) := by decide +kernel
theorem d_Pa_longestDrought_31 : decode (yB Y_Pa_longestDrought) 31 = .ok (.iload_n 2, 1) := by decide +kernel
theorem d_Pa_longestDrought_32 : decode (yB Y_Pa_longestDrought) 32 = .ok (.invokevirtual 57, 3) := by decide +kernel
theorem d_Pa_longestDrought_35 : decode (yB Y_Pa_longestDrought) 35 = .ok (.ifCond .ne 10, 3) := by decide +kernel
theorem d_Pa_longestDrought_38 : decode (yB Y_Pa_longestDrought) 38 = .ok (.iload 4, 2) := by decide +kernel
theorem d_Pa_longestDrought_40 : decode (yB Y_Pa_longestDrought) 40 = .ok (.iconst 1, 1) := by decide +kernel
theorem d_Pa_longestDrought_41 : decode (yB Y_Pa_longestDrought) 41 = .ok (.iadd, 1) := by decide +kernel
theorem d_Pa_longestDrought_42 : decode (yB Y_Pa_longestDrought) 42 = .ok (.goto 4, 3) := by decide +kernel
theorem d_Pa_longestDrought_45 : decode (yB Y_Pa_longestDrought) 45 = .ok (.iconst 0, 1) := by decide +kernel
theorem d_Pa_longestDrought_46 : decode (yB Y_Pa_longestDrought) 46 = .ok (.istore 4, 2) := by decide +kernel
theorem d_Pa_longestDrought_48 : decode (yB Y_Pa_longestDrought) 48 = .ok (.iload_n 3, 1) := by decide +kernel
theorem d_Pa_longestDrought_49 : decode (yB Y_Pa_longestDrought) 49 = .ok (.iload 4, 2) := by decide +kernel
theorem d_Pa_longestDrought_51 : decode (yB Y_Pa_longestDrought) 51 = .ok (.invokestatic 67, 3) := by decide +kernel
theorem d_Pa_longestDrought_54 : decode (yB Y_Pa_longestDrought) 54 = .ok (.istore_n 3, 1) := by decide +kernel
theorem d_Pa_longestDrought_55 : decode (yB Y_Pa_longestDrought) 55 = .ok (.aload_n 0, 1) := by decide +kernel
theorem d_Pa_longestDrought_56 : decode (yB Y_Pa_longestDrought) 56 = .ok (.getfield 12, 3) := by decide +kernel
theorem d_Pa_longestDrought_59 : decode (yB Y_Pa_longestDrought) 59 = .ok (.iconst 1, 1) := by decide +kernel
theorem d_Pa_longestDrought_60 : decode (yB Y_Pa_longestDrought) 60 = .ok (.invokevirtual 63, 3) := by decide +kernel
theorem d_Pa_longestDrought_63 : decode (yB Y_Pa_longestDrought) 63 = .ok (.iinc 5 1, 3) := by decide +kernel
theorem d_Pa_longestDrought_66 : decode (yB Y_Pa_longestDrought) 66 = .ok (.goto (-50), 3) := by decide +kernel
theorem d_Pa_longestDrought_69 : decode (yB Y_Pa_longestDrought) 69 = .ok (.iload_n 3, 1) := by decide +kernel
theorem d_Pa_longestDrought_70 : decode (yB Y_Pa_longestDrought) 70 = .ok (.ireturn, 1) := by decide +kernel
def F_Pa_longestDrought_b46 (n : Nat) (E : zE) (S : zS) (r16 : Nat × Int32 × Int32 × Int32 × Int32 × zH → Option (Int32 × zH)) (a0 : Nat) (x2 : Int32) (x3 : Int32) (x5 : Int32) (s0 : Int32) (M : zH) : Option (Int32 × zH) :=
  (F_Jm_max n E S x3 s0 M).bind fun q_1 =>
  (zgR S a0 4 1).bind fun b_2 =>
  (zck S b_2 3).bind fun u_3 =>
  (F_Ni_turnAll n E S b_2 1 q_1.2).bind fun q_4 =>
  r16 (a0, x2, q_1.1, s0, x5 + 1, q_4)
def F_Pa_longestDrought_L16 (n : Nat) (E : zE) (S : zS) (r16 : Nat × Int32 × Int32 × Int32 × Int32 × zH → Option (Int32 × zH)) (a0 : Nat) (x2 : Int32) (x3 : Int32) (x4 : Int32) (x5 : Int32) (M : zH) : Option (Int32 × zH) :=
  if 60 ≤ x5 then
    some (x3, M)
  else
    (zgR S a0 4 0).bind fun b_6 =>
    (zgR S a0 4 1).bind fun b_7 =>
    (zck S b_6 1).bind fun u_8 =>
    (F_Ju_threadsOn n E S b_6 b_7 x2 M).bind fun q_9 =>
    if q_9.1 = 0 then
      F_Pa_longestDrought_b46 n E S r16 a0 x2 x3 x5 (x4 + 1) q_9.2
    else
      F_Pa_longestDrought_b46 n E S r16 a0 x2 x3 x5 0 q_9.2
def F_Pa_longestDrought_b16 (n : Nat) (E : zE) (S : zS) : Nat × Int32 × Int32 × Int32 × Int32 × zH → Option (Int32 × zH) := zfix (fun r16 s => F_Pa_longestDrought_L16 n E S r16 s.1 s.2.1 s.2.2.1 s.2.2.2.1 s.2.2.2.2.1 s.2.2.2.2.2) n
def F_Pa_longestDrought (n : Nat) (E : zE) (S : zS) (a0 : Nat) (a1 : Nat) (x2 : Int32) (M : zH) : Option (Int32 × zH) :=
  (zgR S a0 4 1).bind fun b_11 =>
  (zck S b_11 3).bind fun u_12 =>
  (F_Ni_copyFrom n E S b_11 a1 M).bind fun q_13 =>
  F_Pa_longestDrought_b16 n E S (a0, x2, 0, 0, 0, q_13)
theorem K_Pa_longestDrought_b46 (n : Nat) (E : zE) (S : zS) (r16 : Nat × Int32 × Int32 × Int32 × Int32 × zH → Option (Int32 × zH)) (a0 : Nat) (x2 : Int32) (x3 : Int32) (x5 : Int32) (s0 : Int32) (M : zH) (r : Int32) (M' : zH) (hr16 : ∀ (a0 : Nat) (x2 : Int32) (x3 : Int32) (x4 : Int32) (x5 : Int32) (M : zH), r16 (a0, x2, x3, x4, x5, M) = some (r, M') → zG E Y_Pa_longestDrought (some (.int r), S, M') 16 [(0, .ref a0), (2, .int x2), (3, .int x3), (4, .int x4), (5, .int x5)] [] S M 0 0) (h : F_Pa_longestDrought_b46 n E S r16 a0 x2 x3 x5 s0 M = some (r, M')) : zG E Y_Pa_longestDrought (some (.int r), S, M') 46 [(0, .ref a0), (2, .int x2), (3, .int x3), (5, .int x5)] [.int s0] S M 0 0 := by
  unfold F_Pa_longestDrought_b46 at h
  refine zi_istore [(4, .int s0), (0, .ref a0), (2, .int x2), (3, .int x3), (5, .int x5)] d_Pa_longestDrought_46 (by decide) rfl ?_
  refine zi_iload_n 3 d_Pa_longestDrought_48 rfl ?_
  refine zi_iload 0 d_Pa_longestDrought_49 rfl ?_
  obtain ⟨q_1, eq_1, h⟩ := zbind h
  refine zo_stat (k' := 0) (n' := 0) 54 [.int x3, .int s0] [] [.int q_1.1] (C_Jm_max n E S x3 s0 M q_1.1 q_1.2 eq_1) d_Pa_longestDrought_51 tw_440 tw_1004 tw_439 tw_14 dd_Jm_max ⟨Nat.le_of_ble_eq_true rfl, Nat.le_of_ble_eq_true rfl, Nat.le_of_ble_eq_true rfl, Nat.le_of_ble_eq_true rfl⟩ (Nat.le_of_ble_eq_true rfl) rfl rfl rfl rfl ?_
  refine zi_istore_n [(3, .int q_1.1), (4, .int s0), (0, .ref a0), (2, .int x2), (5, .int x5)] d_Pa_longestDrought_54 (by decide) rfl ?_
  refine zi_aload_n 2 d_Pa_longestDrought_55 rfl ?_
  obtain ⟨b_2, eb_2, h⟩ := zbind h
  refine zo_getR 59 zkd_4 1 d_Pa_longestDrought_56 eb_2 rfl tw_299 rfl ?_
  refine zi_iconst 1 d_Pa_longestDrought_59 rfl ?_
  obtain ⟨u_3, eu_3, h⟩ := zbind h
  obtain ⟨q_4, eq_4, h⟩ := zbind h
  refine zo_virt (k' := 0) (n' := 0) 63 [.int 1] [] [] zkd_3 (zck_s eu_3) (C_Ni_turnAll n E S b_2 1 q_1.2 q_4 eq_4) d_Pa_longestDrought_60 tw_927 tw_984 tw_925 tw_926 tw_2 dd_Ni_turnAll ⟨Nat.le_of_ble_eq_true rfl, Nat.le_of_ble_eq_true rfl, Nat.le_of_ble_eq_true rfl, Nat.le_of_ble_eq_true rfl⟩ (Nat.le_of_ble_eq_true rfl) rfl rfl rfl rfl ?_
  refine zi_iinc 4 (x5 + 1) [(5, .int (x5 + 1)), (3, .int q_1.1), (4, .int s0), (0, .ref a0), (2, .int x2)] d_Pa_longestDrought_63 rfl rfl (by decide) rfl ?_
  refine zi_goto (tgt := 16) d_Pa_longestDrought_66 rfl ?_
  refine zi_lo [(0, .ref a0), (2, .int x2), (3, .int q_1.1), (4, .int s0), (5, .int (x5 + 1))] [3, 4, 1, 2, 0] rfl ?_
  exact hr16 a0 x2 q_1.1 s0 (x5 + 1) q_4 h
theorem K_Pa_longestDrought_L16 (n : Nat) (E : zE) (S : zS) (r16 : Nat × Int32 × Int32 × Int32 × Int32 × zH → Option (Int32 × zH)) (a0 : Nat) (x2 : Int32) (x3 : Int32) (x4 : Int32) (x5 : Int32) (M : zH) (r : Int32) (M' : zH) (hr16 : ∀ (a0 : Nat) (x2 : Int32) (x3 : Int32) (x4 : Int32) (x5 : Int32) (M : zH), r16 (a0, x2, x3, x4, x5, M) = some (r, M') → zG E Y_Pa_longestDrought (some (.int r), S, M') 16 [(0, .ref a0), (2, .int x2), (3, .int x3), (4, .int x4), (5, .int x5)] [] S M 0 0) (h : F_Pa_longestDrought_L16 n E S r16 a0 x2 x3 x4 x5 M = some (r, M')) : zG E Y_Pa_longestDrought (some (.int r), S, M') 16 [(0, .ref a0), (2, .int x2), (3, .int x3), (4, .int x4), (5, .int x5)] [] S M 0 0 := by
  unfold F_Pa_longestDrought_L16 at h
  refine zi_iload 4 d_Pa_longestDrought_16 rfl ?_
  refine zi_bipush 60 d_Pa_longestDrought_18 rfl ?_
  refine zi_icmp_ge (tgt := 69) d_Pa_longestDrought_20 rfl (fun c_5 => ?_) (fun c_5 => ?_)
  · rw [if_pos c_5] at h
    refine zi_iload_n 2 d_Pa_longestDrought_69 rfl ?_
    cases h
    exact zo_ret d_Pa_longestDrought_70 (Nat.le_of_ble_eq_true rfl) (Nat.le_of_ble_eq_true rfl) rfl
  · rw [if_neg c_5] at h
    refine zi_aload_n 0 d_Pa_longestDrought_23 rfl ?_
    obtain ⟨b_6, eb_6, h⟩ := zbind h
    refine zo_getR 27 zkd_4 0 d_Pa_longestDrought_24 eb_6 rfl tw_298 rfl ?_
    refine zi_aload_n 0 d_Pa_longestDrought_27 rfl ?_
    obtain ⟨b_7, eb_7, h⟩ := zbind h
    refine zo_getR 31 zkd_4 1 d_Pa_longestDrought_28 eb_7 rfl tw_299 rfl ?_
    refine zi_iload_n 1 d_Pa_longestDrought_31 rfl ?_
    obtain ⟨u_8, eu_8, h⟩ := zbind h
    obtain ⟨q_9, eq_9, h⟩ := zbind h
    refine zo_virt (k' := 0) (n' := 0) 35 [.ref b_7, .int x2] [] [.int q_9.1] zkd_1 (zck_s eu_8) (C_Ju_threadsOn n E S b_6 b_7 x2 M q_9.1 q_9.2 eq_9) d_Pa_longestDrought_32 tw_512 tw_983 tw_510 tw_511 tw_8 dd_Ju_threadsOn ⟨Nat.le_of_ble_eq_true rfl, Nat.le_of_ble_eq_true rfl, Nat.le_of_ble_eq_true rfl, Nat.le_of_ble_eq_true rfl⟩ (Nat.le_of_ble_eq_true rfl) rfl rfl rfl rfl ?_
    refine zi_if_ne (tgt := 45) d_Pa_longestDrought_35 rfl (fun c_10 => ?_) (fun c_10 => ?_)
    · rw [if_neg c_10] at h
      refine zi_iconst 0 d_Pa_longestDrought_45 rfl ?_
      refine zi_lo [(0, .ref a0), (2, .int x2), (3, .int x3), (5, .int x5)] [0, 1, 2, 4] rfl ?_
      exact K_Pa_longestDrought_b46 n E S r16 a0 x2 x3 x5 0 q_9.2 r M' hr16 h
    · rw [if_pos c_10] at h
      refine zi_iload 3 d_Pa_longestDrought_38 rfl ?_
      refine zi_iconst 1 d_Pa_longestDrought_40 rfl ?_
      refine zi_iadd d_Pa_longestDrought_41 ?_
      refine zi_goto (tgt := 46) d_Pa_longestDrought_42 rfl ?_
      refine zi_lo [(0, .ref a0), (2, .int x2), (3, .int x3), (5, .int x5)] [0, 1, 2, 4] rfl ?_
      exact K_Pa_longestDrought_b46 n E S r16 a0 x2 x3 x5 (x4 + 1) q_9.2 r M' hr16 h
theorem K_Pa_longestDrought_b16 (n : Nat) (E : zE) (S : zS) (a0 : Nat) (x2 : Int32) (x3 : Int32) (x4 : Int32) (x5 : Int32) (M : zH) (r : Int32) (M' : zH)  (h : F_Pa_longestDrought_b16 n E S (a0, x2, x3, x4, x5, M) = some (r, M')) : zG E Y_Pa_longestDrought (some (.int r), S, M') 16 [(0, .ref a0), (2, .int x2), (3, .int x3), (4, .int x4), (5, .int x5)] [] S M 0 0 := by
  have key : ∀ (k : Nat) (a0 : Nat) (x2 : Int32) (x3 : Int32) (x4 : Int32) (x5 : Int32) (M : zH), zfix (fun r16 s => F_Pa_longestDrought_L16 n E S r16 s.1 s.2.1 s.2.2.1 s.2.2.2.1 s.2.2.2.2.1 s.2.2.2.2.2) k (a0, x2, x3, x4, x5, M) = some (r, M') → zG E Y_Pa_longestDrought (some (.int r), S, M') 16 [(0, .ref a0), (2, .int x2), (3, .int x3), (4, .int x4), (5, .int x5)] [] S M 0 0 := by
    intro k
    induction k with
    | zero => intro a0 x2 x3 x4 x5 M h; cases h
    | succ k ih => intro a0 x2 x3 x4 x5 M h; exact K_Pa_longestDrought_L16 n E S _ a0 x2 x3 x4 x5 M r M'  (fun a0 x2 x3 x4 x5 M h => ih a0 x2 x3 x4 x5 M h) h
  exact key n a0 x2 x3 x4 x5 M h
theorem K_Pa_longestDrought (n : Nat) (E : zE) (S : zS) (a0 : Nat) (a1 : Nat) (x2 : Int32) (M : zH) (r : Int32) (M' : zH)  (h : F_Pa_longestDrought n E S a0 a1 x2 M = some (r, M')) : zG E Y_Pa_longestDrought (some (.int r), S, M') 0 [(0, .ref a0), (1, .ref a1), (2, .int x2)] [] S M 0 0 := by
  unfold F_Pa_longestDrought at h
  refine zi_aload_n 0 d_Pa_longestDrought_0 rfl ?_
  obtain ⟨b_11, eb_11, h⟩ := zbind h
  refine zo_getR 4 zkd_4 1 d_Pa_longestDrought_1 eb_11 rfl tw_299 rfl ?_
  refine zi_aload_n 1 d_Pa_longestDrought_4 rfl ?_
  obtain ⟨u_12, eu_12, h⟩ := zbind h
  obtain ⟨q_13, eq_13, h⟩ := zbind h
  refine zo_virt (k' := 0) (n' := 0) 8 [.ref a1] [] [] zkd_3 (zck_s eu_12) (C_Ni_copyFrom n E S b_11 a1 M q_13 eq_13) d_Pa_longestDrought_5 tw_865 tw_982 tw_863 tw_864 tw_2 dd_Ni_copyFrom ⟨Nat.le_of_ble_eq_true rfl, Nat.le_of_ble_eq_true rfl, Nat.le_of_ble_eq_true rfl, Nat.le_of_ble_eq_true rfl⟩ (Nat.le_of_ble_eq_true rfl) rfl rfl rfl rfl ?_
  refine zi_iconst 0 d_Pa_longestDrought_8 rfl ?_
  refine zi_istore_n [(3, .int 0), (0, .ref a0), (1, .ref a1), (2, .int x2)] d_Pa_longestDrought_9 (by decide) rfl ?_
  refine zi_iconst 0 d_Pa_longestDrought_10 rfl ?_
  refine zi_istore [(4, .int 0), (3, .int 0), (0, .ref a0), (1, .ref a1), (2, .int x2)] d_Pa_longestDrought_11 (by decide) rfl ?_
  refine zi_iconst 0 d_Pa_longestDrought_13 rfl ?_
  refine zi_istore [(5, .int 0), (4, .int 0), (3, .int 0), (0, .ref a0), (1, .ref a1), (2, .int x2)] d_Pa_longestDrought_14 (by decide) rfl ?_
  refine zi_lo [(0, .ref a0), (2, .int x2), (3, .int 0), (4, .int 0), (5, .int 0)] [3, 5, 2, 1, 0] rfl ?_
  exact K_Pa_longestDrought_b16 n E S a0 x2 0 0 0 q_13 r M'  h
theorem C_Pa_longestDrought (n : Nat) (E : zE) (S : zS) (a0 : Nat) (a1 : Nat) (x2 : Int32) (M : zH) (r : Int32) (M' : zH) (h : F_Pa_longestDrought n E S a0 a1 x2 M = some (r, M')) : zC E Y_Pa_longestDrought [.ref a0, .ref a1, .int x2] S M (some (.int r), S, M') :=
  zC.of (Or.inl (show plainName "NightColander$Paper" = true by decide)) (Nat.le_of_ble_eq_true rfl) (trivial) (K_Pa_longestDrought n E S a0 a1 x2 M r M' h)
theorem d_NC_drought_0 : decode (yB Y_NC_drought) 0 = .ok (.iload_n 1, 1) := by decide +kernel
theorem d_NC_drought_1 : decode (yB Y_NC_drought) 1 = .ok (.invokestatic 149, 3) := by decide +kernel
theorem d_NC_drought_4 : decode (yB Y_NC_drought) 4 = .ok (.ifCond .eq 18, 3) := by decide +kernel
theorem d_NC_drought_7 : decode (yB Y_NC_drought) 7 = .ok (.aload_n 0, 1) := by decide +kernel
theorem d_NC_drought_8 : decode (yB Y_NC_drought) 8 = .ok (.getfield 86, 3) := by decide +kernel
theorem d_NC_drought_11 : decode (yB Y_NC_drought) 11 = .ok (.aload_n 0, 1) := by decide +kernel
theorem d_NC_drought_12 : decode (yB Y_NC_drought) 12 = .ok (.getfield 12, 3) := by decide +kernel
theorem d_NC_drought_15 : decode (yB Y_NC_drought) 15 = .ok (.iload_n 1, 1) := by decide +kernel
theorem d_NC_drought_16 : decode (yB Y_NC_drought) 16 = .ok (.invokevirtual 296, 3) := by decide +kernel
theorem d_NC_drought_19 : decode (yB Y_NC_drought) 19 = .ok (.goto 4, 3) := by decide +kernel
theorem d_NC_drought_22 : decode (yB Y_NC_drought) 22 = .ok (.iconst (-1), 1) := by decide +kernel
theorem d_NC_drought_23 : decode (yB Y_NC_drought) 23 = .ok (.ireturn, 1) := by decide +kernel
def F_NC_drought (n : Nat) (E : zE) (S : zS) (a0 : Nat) (x1 : Int32) (M : zH) : Option (Int32 × zH) :=
  (F_NC_isField n E S x1 M).bind fun q_1 =>
  if q_1.1 = true then
    (zgR S a0 10 12).bind fun b_3 =>
    (zgR S a0 10 0).bind fun b_4 =>
    (zck S b_3 4).bind fun u_5 =>
    (F_Pa_longestDrought n E S b_3 b_4 x1 q_1.2).bind fun q_6 =>
    some (q_6.1, q_6.2)
  else
    some ((-1), q_1.2)
theorem K_NC_drought (n : Nat) (E : zE) (S : zS) (a0 : Nat) (x1 : Int32) (M : zH) (r : Int32) (M' : zH)  (h : F_NC_drought n E S a0 x1 M = some (r, M')) : zG E Y_NC_drought (some (.int r), S, M') 0 [(0, .ref a0), (1, .int x1)] [] S M 0 0 := by
  unfold F_NC_drought at h
  refine zi_iload_n 1 d_NC_drought_0 rfl ?_
  obtain ⟨q_1, eq_1, h⟩ := zbind h
  refine zo_stat (k' := 0) (n' := 0) 4 [.int x1] [] [.int (bI q_1.1)] (C_NC_isField n E S x1 M q_1.1 q_1.2 eq_1) d_NC_drought_1 tw_463 tw_461 tw_462 tw_1 dd_NC_isField ⟨Nat.le_of_ble_eq_true rfl, Nat.le_of_ble_eq_true rfl, Nat.le_of_ble_eq_true rfl, Nat.le_of_ble_eq_true rfl⟩ (Nat.le_of_ble_eq_true rfl) rfl rfl rfl rfl ?_
  refine zo_ifeqB d_NC_drought_4 rfl 7 rfl (fun c_2 => ?_) (fun c_2 => ?_)
  · rw [if_neg c_2] at h
    refine zi_iconst (-1) d_NC_drought_22 rfl ?_
    cases h
    exact zo_ret d_NC_drought_23 (Nat.le_of_ble_eq_true rfl) (Nat.le_of_ble_eq_true rfl) rfl
  · rw [if_pos c_2] at h
    refine zi_aload_n 0 d_NC_drought_7 rfl ?_
    obtain ⟨b_3, eb_3, h⟩ := zbind h
    refine zo_getR 11 zkd_10 12 d_NC_drought_8 eb_3 rfl tw_344 rfl ?_
    refine zi_aload_n 0 d_NC_drought_11 rfl ?_
    obtain ⟨b_4, eb_4, h⟩ := zbind h
    refine zo_getR 15 zkd_10 0 d_NC_drought_12 eb_4 rfl tw_332 rfl ?_
    refine zi_iload_n 1 d_NC_drought_15 rfl ?_
    obtain ⟨u_5, eu_5, h⟩ := zbind h
    obtain ⟨q_6, eq_6, h⟩ := zbind h
    refine zo_virt (k' := 0) (n' := 0) 19 [.ref b_4, .int x1] [] [.int q_6.1] zkd_4 (zck_s eu_5) (C_Pa_longestDrought n E S b_3 b_4 x1 q_1.2 q_6.1 q_6.2 eq_6) d_NC_drought_16 tw_1117 tw_1114 tw_1115 tw_1116 tw_12 dd_Pa_longestDrought ⟨Nat.le_of_ble_eq_true rfl, Nat.le_of_ble_eq_true rfl, Nat.le_of_ble_eq_true rfl, Nat.le_of_ble_eq_true rfl⟩ (Nat.le_of_ble_eq_true rfl) rfl rfl rfl rfl ?_
    refine zi_goto (tgt := 23) d_NC_drought_19 rfl ?_
    cases h
    exact zo_ret d_NC_drought_23 (Nat.le_of_ble_eq_true rfl) (Nat.le_of_ble_eq_true rfl) rfl
theorem C_NC_drought (n : Nat) (E : zE) (S : zS) (a0 : Nat) (x1 : Int32) (M : zH) (r : Int32) (M' : zH) (h : F_NC_drought n E S a0 x1 M = some (r, M')) : zC E Y_NC_drought [.ref a0, .int x1] S M (some (.int r), S, M') :=
  zC.of (Or.inl (show plainName "NightColander" = true by decide)) (Nat.le_of_ble_eq_true rfl) (trivial) (K_NC_drought n E S a0 x1 M r M' h)
theorem d_NC_luck_0 : decode (yB Y_NC_luck) 0 = .ok (.iload_n 1, 1) := by decide +kernel
theorem d_NC_luck_1 : decode (yB Y_NC_luck) 1 = .ok (.invokestatic 149, 3) := by decide +kernel
theorem d_NC_luck_4 : decode (yB Y_NC_luck) 4 = .ok (.ifCond .ne 5, 3) := by decide +kernel
theorem d_NC_luck_7 : decode (yB Y_NC_luck) 7 = .ok (.iconst (-1), 1) := by decide +kernel
theorem d_NC_luck_8 : decode (yB Y_NC_luck) 8 = .ok (.ireturn, 1) := by decide +kernel
theorem d_NC_luck_9 : decode (yB Y_NC_luck) 9 = .ok (.aload_n 0, 1) := by decide +kernel
theorem d_NC_luck_10 : decode (yB Y_NC_luck) 10 = .ok (.getfield 61, 3) := by decide +kernel
theorem d_NC_luck_13 : decode (yB Y_NC_luck) 13 = .ok (.aload_n 0, 1) := by decide +kernel
theorem d_NC_luck_14 : decode (yB Y_NC_luck) 14 = .ok (.getfield 12, 3) := by decide +kernel
theorem d_NC_luck_17 : decode (yB Y_NC_luck) 17 = .ok (.iload_n 1, 1) := by decide +kernel
theorem d_NC_luck_18 : decode (yB Y_NC_luck) 18 = .ok (.invokevirtual 186, 3) := by decide +kernel
theorem d_NC_luck_21 : decode (yB Y_NC_luck) 21 = .ok (.istore_n 2, 1) := by decide +kernel
theorem d_NC_luck_22 : decode (yB Y_NC_luck) 22 = .ok (.iconst 0, 1) := by decide +kernel
theorem d_NC_luck_23 : decode (yB Y_NC_luck) 23 = .ok (.istore_n 3, 1) := by decide +kernel
theorem d_NC_luck_24 : decode (yB Y_NC_luck) 24 = .ok (.iconst 0, 1) := by decide +kernel
theorem d_NC_luck_25 : decode (yB Y_NC_luck) 25 = .ok (.istore 4, 2) := by decide +kernel
theorem d_NC_luck_27 : decode (yB Y_NC_luck) 27 = .ok (.iload 4, 2) := by decide +kernel
theorem d_NC_luck_29 : decode (yB Y_NC_luck) 29 = .ok (.bipush 8, 2) := by decide +kernel
theorem d_NC_luck_31 : decode (yB Y_NC_luck) 31 = .ok (.if_icmp .ge 29, 3) := by decide +kernel
theorem d_NC_luck_34 : decode (yB Y_NC_luck) 34 = .ok (.aload_n 0, 1) := by decide +kernel
theorem d_NC_luck_35 : decode (yB Y_NC_luck) 35 = .ok (.getfield 61, 3) := by decide +kernel
theorem d_NC_luck_38 : decode (yB Y_NC_luck) 38 = .ok (.aload_n 0, 1) := by decide +kernel
theorem d_NC_luck_39 : decode (yB Y_NC_luck) 39 = .ok (.getfield 12, 3) := by decide +kernel
theorem d_NC_luck_42 : decode (yB Y_NC_luck) 42 = .ok (.iload 4, 2) := by decide +kernel
theorem d_NC_luck_44 : decode (yB Y_NC_luck) 44 = .ok (.invokevirtual 186, 3) := by decide +kernel
theorem d_NC_luck_47 : decode (yB Y_NC_luck) 47 = .ok (.iload_n 2, 1) := by decide +kernel
theorem d_NC_luck_48 : decode (yB Y_NC_luck) 48 = .ok (.if_icmp .ge 6, 3) := by decide +kernel
theorem d_NC_luck_51 : decode (yB Y_NC_luck) 51 = .ok (.iinc 3 1, 3) := by decide +kernel
theorem d_NC_luck_54 : decode (yB Y_NC_luck) 54 = .ok (.iinc 4 1, 3) := by decide +kernel
theorem d_NC_luck_57 : decode (yB Y_NC_luck) 57 = .ok (.goto (-30), 3) := by decide +kernel
theorem d_NC_luck_60 : decode (yB Y_NC_luck) 60 = .ok (.iload_n 3, 1) := by decide +kernel
theorem d_NC_luck_61 : decode (yB Y_NC_luck) 61 = .ok (.ireturn, 1) := by decide +kernel
def F_NC_luck_b54 (n : Nat) (E : zE) (S : zS) (r27 : Nat × Int32 × Int32 × Int32 × zH → Option (Int32 × zH)) (a0 : Nat) (x2 : Int32) (x3 : Int32) (x4 : Int32) (M : zH) : Option (Int32 × zH) :=
  r27 (a0, x2, x3, x4 + 1, M)
def F_NC_luck_L27 (n : Nat) (E : zE) (S : zS) (r27 : Nat × Int32 × Int32 × Int32 × zH → Option (Int32 × zH)) (a0 : Nat) (x2 : Int32) (x3 : Int32) (x4 : Int32) (M : zH) : Option (Int32 × zH) :=
  if 8 ≤ x4 then
    some (x3, M)
  else
    (zgR S a0 10 9).bind fun b_2 =>
    (zgR S a0 10 0).bind fun b_3 =>
    (zck S b_2 1).bind fun u_4 =>
    (F_Ju_threadsOn n E S b_2 b_3 x4 M).bind fun q_5 =>
    if x2 ≤ q_5.1 then
      F_NC_luck_b54 n E S r27 a0 x2 x3 x4 q_5.2
    else
      F_NC_luck_b54 n E S r27 a0 x2 (x3 + 1) x4 q_5.2
def F_NC_luck_b27 (n : Nat) (E : zE) (S : zS) : Nat × Int32 × Int32 × Int32 × zH → Option (Int32 × zH) := zfix (fun r27 s => F_NC_luck_L27 n E S r27 s.1 s.2.1 s.2.2.1 s.2.2.2.1 s.2.2.2.2) n
def F_NC_luck (n : Nat) (E : zE) (S : zS) (a0 : Nat) (x1 : Int32) (M : zH) : Option (Int32 × zH) :=
  (F_NC_isField n E S x1 M).bind fun q_7 =>
  if q_7.1 = true then
    (zgR S a0 10 9).bind fun b_9 =>
    (zgR S a0 10 0).bind fun b_10 =>
    (zck S b_9 1).bind fun u_11 =>
    (F_Ju_threadsOn n E S b_9 b_10 x1 q_7.2).bind fun q_12 =>
    F_NC_luck_b27 n E S (a0, q_12.1, 0, 0, q_12.2)
  else
    some ((-1), q_7.2)
theorem K_NC_luck_b54 (n : Nat) (E : zE) (S : zS) (r27 : Nat × Int32 × Int32 × Int32 × zH → Option (Int32 × zH)) (a0 : Nat) (x2 : Int32) (x3 : Int32) (x4 : Int32) (M : zH) (r : Int32) (M' : zH) (hr27 : ∀ (a0 : Nat) (x2 : Int32) (x3 : Int32) (x4 : Int32) (M : zH), r27 (a0, x2, x3, x4, M) = some (r, M') → zG E Y_NC_luck (some (.int r), S, M') 27 [(0, .ref a0), (2, .int x2), (3, .int x3), (4, .int x4)] [] S M 0 0) (h : F_NC_luck_b54 n E S r27 a0 x2 x3 x4 M = some (r, M')) : zG E Y_NC_luck (some (.int r), S, M') 54 [(0, .ref a0), (2, .int x2), (3, .int x3), (4, .int x4)] [] S M 0 0 := by
  unfold F_NC_luck_b54 at h
  refine zi_iinc 3 (x4 + 1) [(4, .int (x4 + 1)), (0, .ref a0), (2, .int x2), (3, .int x3)] d_NC_luck_54 rfl rfl (by decide) rfl ?_
  refine zi_goto (tgt := 27) d_NC_luck_57 rfl ?_
  refine zi_lo [(0, .ref a0), (2, .int x2), (3, .int x3), (4, .int (x4 + 1))] [1, 2, 3, 0] rfl ?_
  exact hr27 a0 x2 x3 (x4 + 1) M h
theorem K_NC_luck_L27 (n : Nat) (E : zE) (S : zS) (r27 : Nat × Int32 × Int32 × Int32 × zH → Option (Int32 × zH)) (a0 : Nat) (x2 : Int32) (x3 : Int32) (x4 : Int32) (M : zH) (r : Int32) (M' : zH) (hr27 : ∀ (a0 : Nat) (x2 : Int32) (x3 : Int32) (x4 : Int32) (M : zH), r27 (a0, x2, x3, x4, M) = some (r, M') → zG E Y_NC_luck (some (.int r), S, M') 27 [(0, .ref a0), (2, .int x2), (3, .int x3), (4, .int x4)] [] S M 0 0) (h : F_NC_luck_L27 n E S r27 a0 x2 x3 x4 M = some (r, M')) : zG E Y_NC_luck (some (.int r), S, M') 27 [(0, .ref a0), (2, .int x2), (3, .int x3), (4, .int x4)] [] S M 0 0 := by
  unfold F_NC_luck_L27 at h
  refine zi_iload 3 d_NC_luck_27 rfl ?_
  refine zi_bipush 8 d_NC_luck_29 rfl ?_
  refine zi_icmp_ge (tgt := 60) d_NC_luck_31 rfl (fun c_1 => ?_) (fun c_1 => ?_)
  · rw [if_pos c_1] at h
    refine zi_iload_n 2 d_NC_luck_60 rfl ?_
    cases h
    exact zo_ret d_NC_luck_61 (Nat.le_of_ble_eq_true rfl) (Nat.le_of_ble_eq_true rfl) rfl
  · rw [if_neg c_1] at h
    refine zi_aload_n 0 d_NC_luck_34 rfl ?_
    obtain ⟨b_2, eb_2, h⟩ := zbind h
    refine zo_getR 38 zkd_10 9 d_NC_luck_35 eb_2 rfl tw_341 rfl ?_
    refine zi_aload_n 0 d_NC_luck_38 rfl ?_
    obtain ⟨b_3, eb_3, h⟩ := zbind h
    refine zo_getR 42 zkd_10 0 d_NC_luck_39 eb_3 rfl tw_332 rfl ?_
    refine zi_iload 3 d_NC_luck_42 rfl ?_
    obtain ⟨u_4, eu_4, h⟩ := zbind h
    obtain ⟨q_5, eq_5, h⟩ := zbind h
    refine zo_virt (k' := 0) (n' := 0) 47 [.ref b_3, .int x4] [] [.int q_5.1] zkd_1 (zck_s eu_4) (C_Ju_threadsOn n E S b_2 b_3 x4 M q_5.1 q_5.2 eq_5) d_NC_luck_44 tw_512 tw_509 tw_510 tw_511 tw_8 dd_Ju_threadsOn ⟨Nat.le_of_ble_eq_true rfl, Nat.le_of_ble_eq_true rfl, Nat.le_of_ble_eq_true rfl, Nat.le_of_ble_eq_true rfl⟩ (Nat.le_of_ble_eq_true rfl) rfl rfl rfl rfl ?_
    refine zi_iload_n 1 d_NC_luck_47 rfl ?_
    refine zi_icmp_ge (tgt := 54) d_NC_luck_48 rfl (fun c_6 => ?_) (fun c_6 => ?_)
    · rw [if_pos c_6] at h
      refine zi_lo [(0, .ref a0), (2, .int x2), (3, .int x3), (4, .int x4)] [0, 1, 2, 3] rfl ?_
      exact K_NC_luck_b54 n E S r27 a0 x2 x3 x4 q_5.2 r M' hr27 h
    · rw [if_neg c_6] at h
      refine zi_iinc 2 (x3 + 1) [(3, .int (x3 + 1)), (0, .ref a0), (2, .int x2), (4, .int x4)] d_NC_luck_51 rfl rfl (by decide) rfl ?_
      refine zi_lo [(0, .ref a0), (2, .int x2), (3, .int (x3 + 1)), (4, .int x4)] [1, 2, 0, 3] rfl ?_
      exact K_NC_luck_b54 n E S r27 a0 x2 (x3 + 1) x4 q_5.2 r M' hr27 h
theorem K_NC_luck_b27 (n : Nat) (E : zE) (S : zS) (a0 : Nat) (x2 : Int32) (x3 : Int32) (x4 : Int32) (M : zH) (r : Int32) (M' : zH)  (h : F_NC_luck_b27 n E S (a0, x2, x3, x4, M) = some (r, M')) : zG E Y_NC_luck (some (.int r), S, M') 27 [(0, .ref a0), (2, .int x2), (3, .int x3), (4, .int x4)] [] S M 0 0 := by
  have key : ∀ (k : Nat) (a0 : Nat) (x2 : Int32) (x3 : Int32) (x4 : Int32) (M : zH), zfix (fun r27 s => F_NC_luck_L27 n E S r27 s.1 s.2.1 s.2.2.1 s.2.2.2.1 s.2.2.2.2) k (a0, x2, x3, x4, M) = some (r, M') → zG E Y_NC_luck (some (.int r), S, M') 27 [(0, .ref a0), (2, .int x2), (3, .int x3), (4, .int x4)] [] S M 0 0 := by
    intro k
    induction k with
    | zero => intro a0 x2 x3 x4 M h; cases h
    | succ k ih => intro a0 x2 x3 x4 M h; exact K_NC_luck_L27 n E S _ a0 x2 x3 x4 M r M'  (fun a0 x2 x3 x4 M h => ih a0 x2 x3 x4 M h) h
  exact key n a0 x2 x3 x4 M h
theorem K_NC_luck (n : Nat) (E : zE) (S : zS) (a0 : Nat) (x1 : Int32) (M : zH) (r : Int32) (M' : zH)  (h : F_NC_luck n E S a0 x1 M = some (r, M')) : zG E Y_NC_luck (some (.int r), S, M') 0 [(0, .ref a0), (1, .int x1)] [] S M 0 0 := by
  unfold F_NC_luck at h
  refine zi_iload_n 1 d_NC_luck_0 rfl ?_
  obtain ⟨q_7, eq_7, h⟩ := zbind h
  refine zo_stat (k' := 0) (n' := 0) 4 [.int x1] [] [.int (bI q_7.1)] (C_NC_isField n E S x1 M q_7.1 q_7.2 eq_7) d_NC_luck_1 tw_463 tw_461 tw_462 tw_1 dd_NC_isField ⟨Nat.le_of_ble_eq_true rfl, Nat.le_of_ble_eq_true rfl, Nat.le_of_ble_eq_true rfl, Nat.le_of_ble_eq_true rfl⟩ (Nat.le_of_ble_eq_true rfl) rfl rfl rfl rfl ?_
  refine zo_ifneB d_NC_luck_4 rfl 7 rfl (fun c_8 => ?_) (fun c_8 => ?_)
  · rw [if_pos c_8] at h
    refine zi_aload_n 0 d_NC_luck_9 rfl ?_
    obtain ⟨b_9, eb_9, h⟩ := zbind h
    refine zo_getR 13 zkd_10 9 d_NC_luck_10 eb_9 rfl tw_341 rfl ?_
    refine zi_aload_n 0 d_NC_luck_13 rfl ?_
    obtain ⟨b_10, eb_10, h⟩ := zbind h
    refine zo_getR 17 zkd_10 0 d_NC_luck_14 eb_10 rfl tw_332 rfl ?_
    refine zi_iload_n 1 d_NC_luck_17 rfl ?_
    obtain ⟨u_11, eu_11, h⟩ := zbind h
    obtain ⟨q_12, eq_12, h⟩ := zbind h
    refine zo_virt (k' := 0) (n' := 0) 21 [.ref b_10, .int x1] [] [.int q_12.1] zkd_1 (zck_s eu_11) (C_Ju_threadsOn n E S b_9 b_10 x1 q_7.2 q_12.1 q_12.2 eq_12) d_NC_luck_18 tw_512 tw_509 tw_510 tw_511 tw_8 dd_Ju_threadsOn ⟨Nat.le_of_ble_eq_true rfl, Nat.le_of_ble_eq_true rfl, Nat.le_of_ble_eq_true rfl, Nat.le_of_ble_eq_true rfl⟩ (Nat.le_of_ble_eq_true rfl) rfl rfl rfl rfl ?_
    refine zi_istore_n [(2, .int q_12.1), (0, .ref a0), (1, .int x1)] d_NC_luck_21 (by decide) rfl ?_
    refine zi_iconst 0 d_NC_luck_22 rfl ?_
    refine zi_istore_n [(3, .int 0), (2, .int q_12.1), (0, .ref a0), (1, .int x1)] d_NC_luck_23 (by decide) rfl ?_
    refine zi_iconst 0 d_NC_luck_24 rfl ?_
    refine zi_istore [(4, .int 0), (3, .int 0), (2, .int q_12.1), (0, .ref a0), (1, .int x1)] d_NC_luck_25 (by decide) rfl ?_
    refine zi_lo [(0, .ref a0), (2, .int q_12.1), (3, .int 0), (4, .int 0)] [3, 2, 1, 0] rfl ?_
    exact K_NC_luck_b27 n E S a0 q_12.1 0 0 q_12.2 r M'  h
  · rw [if_neg c_8] at h
    refine zi_iconst (-1) d_NC_luck_7 rfl ?_
    cases h
    exact zo_ret d_NC_luck_8 (Nat.le_of_ble_eq_true rfl) (Nat.le_of_ble_eq_true rfl) rfl
theorem C_NC_luck (n : Nat) (E : zE) (S : zS) (a0 : Nat) (x1 : Int32) (M : zH) (r : Int32) (M' : zH) (h : F_NC_luck n E S a0 x1 M = some (r, M')) : zC E Y_NC_luck [.ref a0, .int x1] S M (some (.int r), S, M') :=
  zC.of (Or.inl (show plainName "NightColander" = true by decide)) (Nat.le_of_ble_eq_true rfl) (trivial) (K_NC_luck n E S a0 x1 M r M' h)
theorem d_NC_together_0 : decode (yB Y_NC_together) 0 = .ok (.iload_n 1, 1) := by decide +kernel
theorem d_NC_together_1 : decode (yB Y_NC_together) 1 = .ok (.invokestatic 111, 3) := by decide +kernel
theorem d_NC_together_4 : decode (yB Y_NC_together) 4 = .ok (.ifCond .eq 15, 3) := by decide +kernel
theorem d_NC_together_7 : decode (yB Y_NC_together) 7 = .ok (.iload_n 2, 1) := by decide +kernel
theorem d_NC_together_8 : decode (yB Y_NC_together) 8 = .ok (.invokestatic 111, 3) := by decide +kernel
theorem d_NC_together_11 : decode (yB Y_NC_together) 11 = .ok (.ifCond .eq 8, 3) := by decide +kernel
theorem d_NC_together_14 : decode (yB Y_NC_together) 14 = .ok (.iload_n 1, 1) := by decide +kernel
theorem d_NC_together_15 : decode (yB Y_NC_together) 15 = .ok (.iload_n 2, 1) := by decide +kernel
theorem d_NC_together_16 : decode (yB Y_NC_together) 16 = .ok (.if_icmp .ne 5, 3) := by decide +kernel
theorem d_NC_together_19 : decode (yB Y_NC_together) 19 = .ok (.iconst (-1), 1) := by decide +kernel
theorem d_NC_together_20 : decode (yB Y_NC_together) 20 = .ok (.ireturn, 1) := by decide +kernel
theorem d_NC_together_21 : decode (yB Y_NC_together) 21 = .ok (.iconst 1, 1) := by decide +kernel
theorem d_NC_together_22 : decode (yB Y_NC_together) 22 = .ok (.istore_n 3, 1) := by decide +kernel
theorem d_NC_together_23 : decode (yB Y_NC_together) 23 = .ok (.iload_n 3, 1) := by decide +kernel
theorem d_NC_together_24 : decode (yB Y_NC_together) 24 = .ok (.bipush 8, 2) := by decide +kernel
theorem d_NC_together_26 : decode (yB Y_NC_together) 26 = .ok (.if_icmp .ge 24, 3) := by decide +kernel
theorem d_NC_together_29 : decode (yB Y_NC_together) 29 = .ok (.iload_n 1, 1) := by decide +kernel
theorem d_NC_together_30 : decode (yB Y_NC_together) 30 = .ok (.iload_n 2, 1) := by decide +kernel
theorem d_NC_together_31 : decode (yB Y_NC_together) 31 = .ok (.isub, 1) := by decide +kernel
theorem d_NC_together_32 : decode (yB Y_NC_together) 32 = .ok (.iload_n 3, 1) := by decide +kernel
theorem d_NC_together_33 : decode (yB Y_NC_together) 33 = .ok (.imul, 1) := by decide +kernel
theorem d_NC_together_34 : decode (yB Y_NC_together) 34 = .ok (.bipush 8, 2) := by decide +kernel
theorem d_NC_together_36 : decode (yB Y_NC_together) 36 = .ok (.invokestatic 299, 3) := by decide +kernel
theorem d_NC_together_39 : decode (yB Y_NC_together) 39 = .ok (.ifCond .ne 5, 3) := by decide +kernel
theorem d_NC_together_42 : decode (yB Y_NC_together) 42 = .ok (.iload_n 3, 1) := by decide +kernel
theorem d_NC_together_43 : decode (yB Y_NC_together) 43 = .ok (.ireturn, 1) := by decide +kernel
theorem d_NC_together_44 : decode (yB Y_NC_together) 44 = .ok (.iinc 3 1, 3) := by decide +kernel
theorem d_NC_together_47 : decode (yB Y_NC_together) 47 = .ok (.goto (-24), 3) := by decide +kernel
theorem d_NC_together_50 : decode (yB Y_NC_together) 50 = .ok (.bipush 8, 2) := by decide +kernel
theorem d_NC_together_52 : decode (yB Y_NC_together) 52 = .ok (.ireturn, 1) := by decide +kernel
def F_NC_together_L23 (n : Nat) (E : zE) (S : zS) (r23 : Int32 × Int32 × Int32 × zH → Option (Int32 × zH)) (x1 : Int32) (x2 : Int32) (x3 : Int32) (M : zH) : Option (Int32 × zH) :=
  if 8 ≤ x3 then
    some (8, M)
  else
    (F_Jm_floorMod n E S ((x1 - x2) * x3) 8 M).bind fun q_2 =>
    if q_2.1 = 0 then
      some (x3, q_2.2)
    else
      r23 (x1, x2, x3 + 1, q_2.2)
def F_NC_together_b23 (n : Nat) (E : zE) (S : zS) : Int32 × Int32 × Int32 × zH → Option (Int32 × zH) := zfix (fun r23 s => F_NC_together_L23 n E S r23 s.1 s.2.1 s.2.2.1 s.2.2.2) n
def F_NC_together (n : Nat) (E : zE) (S : zS) (a0 : Nat) (x1 : Int32) (x2 : Int32) (M : zH) : Option (Int32 × zH) :=
  (F_NC_isRing n E S x1 M).bind fun q_4 =>
  if q_4.1 = true then
    (F_NC_isRing n E S x2 q_4.2).bind fun q_6 =>
    if q_6.1 = true then
      if x1 = x2 then
        some ((-1), q_6.2)
      else
        F_NC_together_b23 n E S (x1, x2, 1, q_6.2)
    else
      some ((-1), q_6.2)
  else
    some ((-1), q_4.2)
theorem K_NC_together_L23 (n : Nat) (E : zE) (S : zS) (r23 : Int32 × Int32 × Int32 × zH → Option (Int32 × zH)) (x1 : Int32) (x2 : Int32) (x3 : Int32) (M : zH) (r : Int32) (M' : zH) (hr23 : ∀ (x1 : Int32) (x2 : Int32) (x3 : Int32) (M : zH), r23 (x1, x2, x3, M) = some (r, M') → zG E Y_NC_together (some (.int r), S, M') 23 [(1, .int x1), (2, .int x2), (3, .int x3)] [] S M 0 0) (h : F_NC_together_L23 n E S r23 x1 x2 x3 M = some (r, M')) : zG E Y_NC_together (some (.int r), S, M') 23 [(1, .int x1), (2, .int x2), (3, .int x3)] [] S M 0 0 := by
  unfold F_NC_together_L23 at h
  refine zi_iload_n 2 d_NC_together_23 rfl ?_
  refine zi_bipush 8 d_NC_together_24 rfl ?_
  refine zi_icmp_ge (tgt := 50) d_NC_together_26 rfl (fun c_1 => ?_) (fun c_1 => ?_)
  · rw [if_pos c_1] at h
    refine zi_bipush 8 d_NC_together_50 rfl ?_
    cases h
    exact zo_ret d_NC_together_52 (Nat.le_of_ble_eq_true rfl) (Nat.le_of_ble_eq_true rfl) rfl
  · rw [if_neg c_1] at h
    refine zi_iload_n 0 d_NC_together_29 rfl ?_
    refine zi_iload_n 1 d_NC_together_30 rfl ?_
    refine zi_isub d_NC_together_31 ?_
    refine zi_iload_n 2 d_NC_together_32 rfl ?_
    refine zi_imul d_NC_together_33 ?_
    refine zi_bipush 8 d_NC_together_34 rfl ?_
    obtain ⟨q_2, eq_2, h⟩ := zbind h
    refine zo_stat (k' := 0) (n' := 0) 39 [.int ((x1 - x2) * x3), .int 8] [] [.int q_2.1] (C_Jm_floorMod n E S ((x1 - x2) * x3) 8 M q_2.1 q_2.2 eq_2) d_NC_together_36 tw_409 tw_1126 tw_408 tw_14 dd_Jm_floorMod ⟨Nat.le_of_ble_eq_true rfl, Nat.le_of_ble_eq_true rfl, Nat.le_of_ble_eq_true rfl, Nat.le_of_ble_eq_true rfl⟩ (Nat.le_of_ble_eq_true rfl) rfl rfl rfl rfl ?_
    refine zi_if_ne (tgt := 44) d_NC_together_39 rfl (fun c_3 => ?_) (fun c_3 => ?_)
    · rw [if_neg c_3] at h
      refine zi_iinc 2 (x3 + 1) [(3, .int (x3 + 1)), (1, .int x1), (2, .int x2)] d_NC_together_44 rfl rfl (by decide) rfl ?_
      refine zi_goto (tgt := 23) d_NC_together_47 rfl ?_
      refine zi_lo [(1, .int x1), (2, .int x2), (3, .int (x3 + 1))] [1, 2, 0] rfl ?_
      exact hr23 x1 x2 (x3 + 1) q_2.2 h
    · rw [if_pos c_3] at h
      refine zi_iload_n 2 d_NC_together_42 rfl ?_
      cases h
      exact zo_ret d_NC_together_43 (Nat.le_of_ble_eq_true rfl) (Nat.le_of_ble_eq_true rfl) rfl
theorem K_NC_together_b23 (n : Nat) (E : zE) (S : zS) (x1 : Int32) (x2 : Int32) (x3 : Int32) (M : zH) (r : Int32) (M' : zH)  (h : F_NC_together_b23 n E S (x1, x2, x3, M) = some (r, M')) : zG E Y_NC_together (some (.int r), S, M') 23 [(1, .int x1), (2, .int x2), (3, .int x3)] [] S M 0 0 := by
  have key : ∀ (k : Nat) (x1 : Int32) (x2 : Int32) (x3 : Int32) (M : zH), zfix (fun r23 s => F_NC_together_L23 n E S r23 s.1 s.2.1 s.2.2.1 s.2.2.2) k (x1, x2, x3, M) = some (r, M') → zG E Y_NC_together (some (.int r), S, M') 23 [(1, .int x1), (2, .int x2), (3, .int x3)] [] S M 0 0 := by
    intro k
    induction k with
    | zero => intro x1 x2 x3 M h; cases h
    | succ k ih => intro x1 x2 x3 M h; exact K_NC_together_L23 n E S _ x1 x2 x3 M r M'  (fun x1 x2 x3 M h => ih x1 x2 x3 M h) h
  exact key n x1 x2 x3 M h
theorem K_NC_together (n : Nat) (E : zE) (S : zS) (a0 : Nat) (x1 : Int32) (x2 : Int32) (M : zH) (r : Int32) (M' : zH)  (h : F_NC_together n E S a0 x1 x2 M = some (r, M')) : zG E Y_NC_together (some (.int r), S, M') 0 [(0, .ref a0), (1, .int x1), (2, .int x2)] [] S M 0 0 := by
  unfold F_NC_together at h
  refine zi_iload_n 1 d_NC_together_0 rfl ?_
  obtain ⟨q_4, eq_4, h⟩ := zbind h
  refine zo_stat (k' := 0) (n' := 0) 4 [.int x1] [] [.int (bI q_4.1)] (C_NC_isRing n E S x1 M q_4.1 q_4.2 eq_4) d_NC_together_1 tw_396 tw_394 tw_395 tw_1 dd_NC_isRing ⟨Nat.le_of_ble_eq_true rfl, Nat.le_of_ble_eq_true rfl, Nat.le_of_ble_eq_true rfl, Nat.le_of_ble_eq_true rfl⟩ (Nat.le_of_ble_eq_true rfl) rfl rfl rfl rfl ?_
  refine zo_ifeqB d_NC_together_4 rfl 7 rfl (fun c_5 => ?_) (fun c_5 => ?_)
  · rw [if_neg c_5] at h
    refine zi_iconst (-1) d_NC_together_19 rfl ?_
    cases h
    exact zo_ret d_NC_together_20 (Nat.le_of_ble_eq_true rfl) (Nat.le_of_ble_eq_true rfl) rfl
  · rw [if_pos c_5] at h
    refine zi_iload_n 2 d_NC_together_7 rfl ?_
    obtain ⟨q_6, eq_6, h⟩ := zbind h
    refine zo_stat (k' := 0) (n' := 0) 11 [.int x2] [] [.int (bI q_6.1)] (C_NC_isRing n E S x2 q_4.2 q_6.1 q_6.2 eq_6) d_NC_together_8 tw_396 tw_394 tw_395 tw_1 dd_NC_isRing ⟨Nat.le_of_ble_eq_true rfl, Nat.le_of_ble_eq_true rfl, Nat.le_of_ble_eq_true rfl, Nat.le_of_ble_eq_true rfl⟩ (Nat.le_of_ble_eq_true rfl) rfl rfl rfl rfl ?_
    refine zo_ifeqB d_NC_together_11 rfl 14 rfl (fun c_7 => ?_) (fun c_7 => ?_)
    · rw [if_neg c_7] at h
      refine zi_iconst (-1) d_NC_together_19 rfl ?_
      cases h
      exact zo_ret d_NC_together_20 (Nat.le_of_ble_eq_true rfl) (Nat.le_of_ble_eq_true rfl) rfl
    · rw [if_pos c_7] at h
      refine zi_iload_n 1 d_NC_together_14 rfl ?_
      refine zi_iload_n 2 d_NC_together_15 rfl ?_
      refine zi_icmp_ne (tgt := 21) d_NC_together_16 rfl (fun c_8 => ?_) (fun c_8 => ?_)
      · rw [if_neg c_8] at h
        refine zi_iconst 1 d_NC_together_21 rfl ?_
        refine zi_istore_n [(3, .int 1), (0, .ref a0), (1, .int x1), (2, .int x2)] d_NC_together_22 (by decide) rfl ?_
        refine zi_lo [(1, .int x1), (2, .int x2), (3, .int 1)] [2, 3, 0] rfl ?_
        exact K_NC_together_b23 n E S x1 x2 1 q_6.2 r M'  h
      · rw [if_pos c_8] at h
        refine zi_iconst (-1) d_NC_together_19 rfl ?_
        cases h
        exact zo_ret d_NC_together_20 (Nat.le_of_ble_eq_true rfl) (Nat.le_of_ble_eq_true rfl) rfl
theorem C_NC_together (n : Nat) (E : zE) (S : zS) (a0 : Nat) (x1 : Int32) (x2 : Int32) (M : zH) (r : Int32) (M' : zH) (h : F_NC_together n E S a0 x1 x2 M = some (r, M')) : zC E Y_NC_together [.ref a0, .int x1, .int x2] S M (some (.int r), S, M') :=
  zC.of (Or.inl (show plainName "NightColander" = true by decide)) (Nat.le_of_ble_eq_true rfl) (trivial) (K_NC_together n E S a0 x1 x2 M r M' h)
theorem d_NC_settled_0 : decode (yB Y_NC_settled) 0 = .ok (.aload_n 0, 1) := by decide +kernel
theorem d_NC_settled_1 : decode (yB Y_NC_settled) 1 = .ok (.getfield 12, 3) := by decide +kernel
theorem d_NC_settled_4 : decode (yB Y_NC_settled) 4 = .ok (.iload_n 1, 1) := by decide +kernel
theorem d_NC_settled_5 : decode (yB Y_NC_settled) 5 = .ok (.invokevirtual 161, 3) := by decide +kernel
theorem d_NC_settled_8 : decode (yB Y_NC_settled) 8 = .ok (.ifCond .ne 5, 3) := by decide +kernel
theorem d_NC_settled_11 : decode (yB Y_NC_settled) 11 = .ok (.iconst (-1), 1) := by decide +kernel
theorem d_NC_settled_12 : decode (yB Y_NC_settled) 12 = .ok (.ireturn, 1) := by decide +kernel
theorem d_NC_settled_13 : decode (yB Y_NC_settled) 13 = .ok (.iload_n 1, 1) := by decide +kernel
theorem d_NC_settled_14 : decode (yB Y_NC_settled) 14 = .ok (.ifCond .ne 15, 3) := by decide +kernel
theorem d_NC_settled_17 : decode (yB Y_NC_settled) 17 = .ok (.aload_n 0, 1) := by decide +kernel
theorem d_NC_settled_18 : decode (yB Y_NC_settled) 18 = .ok (.getfield 12, 3) := by decide +kernel
theorem d_NC_settled_21 : decode (yB Y_NC_settled) 21 = .ok (.getfield 155, 3) := by decide +kernel
theorem d_NC_settled_24 : decode (yB Y_NC_settled) 24 = .ok (.iconst 1, 1) := by decide +kernel
theorem d_NC_settled_25 : decode (yB Y_NC_settled) 25 = .ok (.isub, 1) := by decide +kernel
theorem d_NC_settled_26 : decode (yB Y_NC_settled) 26 = .ok (.goto 6, 3) := by decide +kernel
theorem d_NC_settled_29 : decode (yB Y_NC_settled) 29 = .ok (.iload_n 1, 1) := by decide +kernel
theorem d_NC_settled_30 : decode (yB Y_NC_settled) 30 = .ok (.iconst 1, 1) := by decide +kernel
theorem d_NC_settled_31 : decode (yB Y_NC_settled) 31 = .ok (.isub, 1) := by decide +kernel
theorem d_NC_settled_32 : decode (yB Y_NC_settled) 32 = .ok (.istore_n 2, 1) := by decide +kernel
theorem d_NC_settled_33 : decode (yB Y_NC_settled) 33 = .ok (.aload_n 0, 1) := by decide +kernel
theorem d_NC_settled_34 : decode (yB Y_NC_settled) 34 = .ok (.getfield 12, 3) := by decide +kernel
theorem d_NC_settled_37 : decode (yB Y_NC_settled) 37 = .ok (.getfield 167, 3) := by decide +kernel
theorem d_NC_settled_40 : decode (yB Y_NC_settled) 40 = .ok (.iload_n 1, 1) := by decide +kernel
theorem d_NC_settled_41 : decode (yB Y_NC_settled) 41 = .ok (.iaload, 1) := by decide +kernel
theorem d_NC_settled_42 : decode (yB Y_NC_settled) 42 = .ok (.aload_n 0, 1) := by decide +kernel
theorem d_NC_settled_43 : decode (yB Y_NC_settled) 43 = .ok (.getfield 12, 3) := by decide +kernel
theorem d_NC_settled_46 : decode (yB Y_NC_settled) 46 = .ok (.getfield 167, 3) := by decide +kernel
theorem d_NC_settled_49 : decode (yB Y_NC_settled) 49 = .ok (.iload_n 1, 1) := by decide +kernel
theorem d_NC_settled_50 : decode (yB Y_NC_settled) 50 = .ok (.iaload, 1) := by decide +kernel
theorem d_NC_settled_51 : decode (yB Y_NC_settled) 51 = .ok (.iconst 2, 1) := by decide +kernel
theorem d_NC_settled_52 : decode (yB Y_NC_settled) 52 = .ok (.idiv, 1) := by decide +kernel
theorem d_NC_settled_53 : decode (yB Y_NC_settled) 53 = .ok (.isub, 1) := by decide +kernel
theorem d_NC_settled_54 : decode (yB Y_NC_settled) 54 = .ok (.aload_n 0, 1) := by decide +kernel
theorem d_NC_settled_55 : decode (yB Y_NC_settled) 55 = .ok (.getfield 12, 3) := by decide +kernel
theorem d_NC_settled_58 : decode (yB Y_NC_settled) 58 = .ok (.getfield 167, 3) := by decide +kernel
theorem d_NC_settled_61 : decode (yB Y_NC_settled) 61 = .ok (.iload_n 2, 1) := by decide +kernel
theorem d_NC_settled_62 : decode (yB Y_NC_settled) 62 = .ok (.iaload, 1) := by decide +kernel
theorem d_NC_settled_63 : decode (yB Y_NC_settled) 63 = .ok (.iconst 2, 1) := by decide +kernel
theorem d_NC_settled_64 : decode (yB Y_NC_settled) 64 = .ok (.idiv, 1) := by decide +kernel
theorem d_NC_settled_65 : decode (yB Y_NC_settled) 65 = .ok (.iadd, 1) := by decide +kernel
theorem d_NC_settled_66 : decode (yB Y_NC_settled) 66 = .ok (.ireturn, 1) := by decide +kernel
def F_NC_settled_b32 (n : Nat) (E : zE) (S : zS) (a0 : Nat) (x1 : Int32) (s0 : Int32) (M : zH) : Option (Int32 × zH) :=
  (zgR S a0 10 0).bind fun b_1 =>
  (zgR S b_1 3 4).bind fun b_2 =>
  (zldI S M b_2 x1).bind fun v_3 =>
  (zldI S M b_2 x1).bind fun v_4 =>
  (zdivI v_4 2).bind fun v_5 =>
  (zldI S M b_2 s0).bind fun v_6 =>
  (zdivI v_6 2).bind fun v_7 =>
  some ((v_3 - v_5) + v_7, M)
def F_NC_settled (n : Nat) (E : zE) (S : zS) (a0 : Nat) (x1 : Int32) (M : zH) : Option (Int32 × zH) :=
  (zgR S a0 10 0).bind fun b_8 =>
  (zck S b_8 3).bind fun u_9 =>
  (F_Ni_hasBucket n E S b_8 x1 M).bind fun q_10 =>
  if q_10.1 = true then
    if x1 = 0 then
      (zgI S q_10.2 b_8 3 11).bind fun v_13 =>
      F_NC_settled_b32 n E S a0 x1 (v_13 - 1) q_10.2
    else
      F_NC_settled_b32 n E S a0 x1 (x1 - 1) q_10.2
  else
    some ((-1), q_10.2)
theorem K_NC_settled_b32 (n : Nat) (E : zE) (S : zS) (a0 : Nat) (x1 : Int32) (s0 : Int32) (M : zH) (r : Int32) (M' : zH)  (h : F_NC_settled_b32 n E S a0 x1 s0 M = some (r, M')) : zG E Y_NC_settled (some (.int r), S, M') 32 [(0, .ref a0), (1, .int x1)] [.int s0] S M 0 0 := by
  unfold F_NC_settled_b32 at h
  refine zi_istore_n [(2, .int s0), (0, .ref a0), (1, .int x1)] d_NC_settled_32 (by decide) rfl ?_
  refine zi_aload_n 1 d_NC_settled_33 rfl ?_
  obtain ⟨b_1, eb_1, h⟩ := zbind h
  refine zo_getR 37 zkd_10 0 d_NC_settled_34 eb_1 rfl tw_332 rfl ?_
  obtain ⟨b_2, eb_2, h⟩ := zbind h
  refine zo_getR 40 zkd_3 4 d_NC_settled_37 eb_2 rfl tw_63 rfl ?_
  refine zi_iload_n 2 d_NC_settled_40 rfl ?_
  obtain ⟨v_3, ev_3, h⟩ := zbind h
  refine zo_iald 42 d_NC_settled_41 ev_3 rfl ?_
  refine zi_aload_n 1 d_NC_settled_42 rfl ?_
  refine zo_getR 46 zkd_10 0 d_NC_settled_43 eb_1 rfl tw_332 rfl ?_
  refine zo_getR 49 zkd_3 4 d_NC_settled_46 eb_2 rfl tw_63 rfl ?_
  refine zi_iload_n 2 d_NC_settled_49 rfl ?_
  obtain ⟨v_4, ev_4, h⟩ := zbind h
  refine zo_iald 51 d_NC_settled_50 ev_4 rfl ?_
  refine zi_iconst 2 d_NC_settled_51 rfl ?_
  obtain ⟨v_5, ev_5, h⟩ := zbind h
  refine zo_idiv 53 d_NC_settled_52 ev_5 rfl ?_
  refine zi_isub d_NC_settled_53 ?_
  refine zi_aload_n 1 d_NC_settled_54 rfl ?_
  refine zo_getR 58 zkd_10 0 d_NC_settled_55 eb_1 rfl tw_332 rfl ?_
  refine zo_getR 61 zkd_3 4 d_NC_settled_58 eb_2 rfl tw_63 rfl ?_
  refine zi_iload_n 0 d_NC_settled_61 rfl ?_
  obtain ⟨v_6, ev_6, h⟩ := zbind h
  refine zo_iald 63 d_NC_settled_62 ev_6 rfl ?_
  refine zi_iconst 2 d_NC_settled_63 rfl ?_
  obtain ⟨v_7, ev_7, h⟩ := zbind h
  refine zo_idiv 65 d_NC_settled_64 ev_7 rfl ?_
  refine zi_iadd d_NC_settled_65 ?_
  cases h
  exact zo_ret d_NC_settled_66 (Nat.le_of_ble_eq_true rfl) (Nat.le_of_ble_eq_true rfl) rfl
theorem K_NC_settled (n : Nat) (E : zE) (S : zS) (a0 : Nat) (x1 : Int32) (M : zH) (r : Int32) (M' : zH)  (h : F_NC_settled n E S a0 x1 M = some (r, M')) : zG E Y_NC_settled (some (.int r), S, M') 0 [(0, .ref a0), (1, .int x1)] [] S M 0 0 := by
  unfold F_NC_settled at h
  refine zi_aload_n 0 d_NC_settled_0 rfl ?_
  obtain ⟨b_8, eb_8, h⟩ := zbind h
  refine zo_getR 4 zkd_10 0 d_NC_settled_1 eb_8 rfl tw_332 rfl ?_
  refine zi_iload_n 1 d_NC_settled_4 rfl ?_
  obtain ⟨u_9, eu_9, h⟩ := zbind h
  obtain ⟨q_10, eq_10, h⟩ := zbind h
  refine zo_virt (k' := 0) (n' := 0) 8 [.int x1] [] [.int (bI q_10.1)] zkd_3 (zck_s eu_9) (C_Ni_hasBucket n E S b_8 x1 M q_10.1 q_10.2 eq_10) d_NC_settled_5 tw_479 tw_476 tw_477 tw_478 tw_2 dd_Ni_hasBucket ⟨Nat.le_of_ble_eq_true rfl, Nat.le_of_ble_eq_true rfl, Nat.le_of_ble_eq_true rfl, Nat.le_of_ble_eq_true rfl⟩ (Nat.le_of_ble_eq_true rfl) rfl rfl rfl rfl ?_
  refine zo_ifneB d_NC_settled_8 rfl 11 rfl (fun c_11 => ?_) (fun c_11 => ?_)
  · rw [if_pos c_11] at h
    refine zi_iload_n 1 d_NC_settled_13 rfl ?_
    refine zi_if_ne (tgt := 29) d_NC_settled_14 rfl (fun c_12 => ?_) (fun c_12 => ?_)
    · rw [if_neg c_12] at h
      refine zi_iload_n 1 d_NC_settled_29 rfl ?_
      refine zi_iconst 1 d_NC_settled_30 rfl ?_
      refine zi_isub d_NC_settled_31 ?_
      refine zi_lo [(0, .ref a0), (1, .int x1)] [0, 1] rfl ?_
      exact K_NC_settled_b32 n E S a0 x1 (x1 - 1) q_10.2 r M'  h
    · rw [if_pos c_12] at h
      refine zi_aload_n 0 d_NC_settled_17 rfl ?_
      refine zo_getR 21 zkd_10 0 d_NC_settled_18 eb_8 rfl tw_332 rfl ?_
      obtain ⟨v_13, ev_13, h⟩ := zbind h
      refine zo_getI 24 zkd_3 11 d_NC_settled_21 ev_13 rfl tw_87 rfl ?_
      refine zi_iconst 1 d_NC_settled_24 rfl ?_
      refine zi_isub d_NC_settled_25 ?_
      refine zi_goto (tgt := 32) d_NC_settled_26 rfl ?_
      refine zi_lo [(0, .ref a0), (1, .int x1)] [0, 1] rfl ?_
      exact K_NC_settled_b32 n E S a0 x1 (v_13 - 1) q_10.2 r M'  h
  · rw [if_neg c_11] at h
    refine zi_iconst (-1) d_NC_settled_11 rfl ?_
    cases h
    exact zo_ret d_NC_settled_12 (Nat.le_of_ble_eq_true rfl) (Nat.le_of_ble_eq_true rfl) rfl
theorem C_NC_settled (n : Nat) (E : zE) (S : zS) (a0 : Nat) (x1 : Int32) (M : zH) (r : Int32) (M' : zH) (h : F_NC_settled n E S a0 x1 M = some (r, M')) : zC E Y_NC_settled [.ref a0, .int x1] S M (some (.int r), S, M') :=
  zC.of (Or.inl (show plainName "NightColander" = true by decide)) (Nat.le_of_ble_eq_true rfl) (trivial) (K_NC_settled n E S a0 x1 M r M' h)
theorem d_Ja_fillJ_0 : decode (yB Y_Ja_fillJ) 0 = .ok (.iconst 0, 1) := by decide +kernel
theorem d_Ja_fillJ_1 : decode (yB Y_Ja_fillJ) 1 = .ok (.istore_n 3, 1) := by decide +kernel
theorem d_Ja_fillJ_2 : decode (yB Y_Ja_fillJ) 2 = .ok (.aload_n 0, 1) := by decide +kernel
theorem d_Ja_fillJ_3 : decode (yB Y_Ja_fillJ) 3 = .ok (.arraylength, 1) := by decide +kernel
theorem d_Ja_fillJ_4 : decode (yB Y_Ja_fillJ) 4 = .ok (.istore 4, 2) := by decide +kernel
theorem d_Ja_fillJ_6 : decode (yB Y_Ja_fillJ) 6 = .ok (.iload_n 3, 1) := by decide +kernel
theorem d_Ja_fillJ_7 : decode (yB Y_Ja_fillJ) 7 = .ok (.iload 4, 2) := by decide +kernel
theorem d_Ja_fillJ_9 : decode (yB Y_Ja_fillJ) 9 = .ok (.if_icmp .ge 13, 3) := by decide +kernel
theorem d_Ja_fillJ_12 : decode (yB Y_Ja_fillJ) 12 = .ok (.aload_n 0, 1) := by decide +kernel
theorem d_Ja_fillJ_13 : decode (yB Y_Ja_fillJ) 13 = .ok (.iload_n 3, 1) := by decide +kernel
theorem d_Ja_fillJ_14 : decode (yB Y_Ja_fillJ) 14 = .ok (.lload_n 1, 1) := by decide +kernel
theorem d_Ja_fillJ_15 : decode (yB Y_Ja_fillJ) 15 = .ok (.lastore, 1) := by decide +kernel
theorem d_Ja_fillJ_16 : decode (yB Y_Ja_fillJ) 16 = .ok (.iinc 3 1, 3) := by decide +kernel
theorem d_Ja_fillJ_19 : decode (yB Y_Ja_fillJ) 19 = .ok (.goto (-13), 3) := by decide +kernel
theorem d_Ja_fillJ_22 : decode (yB Y_Ja_fillJ) 22 = .ok (.return_, 1) := by decide +kernel
def F_Ja_fillJ_L6 (n : Nat) (E : zE) (S : zS) (r6 : Nat × Int64 × Int32 × Int32 × zH → Option (zH)) (a0 : Nat) (y1 : Int64) (x3 : Int32) (x4 : Int32) (M : zH) : Option (zH) :=
  if x4 ≤ x3 then
    some (M)
  else
    (zstJ S M a0 x3 y1).bind fun m_2 =>
    r6 (a0, y1, x3 + 1, x4, m_2)
def F_Ja_fillJ_b6 (n : Nat) (E : zE) (S : zS) : Nat × Int64 × Int32 × Int32 × zH → Option (zH) := zfix (fun r6 s => F_Ja_fillJ_L6 n E S r6 s.1 s.2.1 s.2.2.1 s.2.2.2.1 s.2.2.2.2) n
def F_Ja_fillJ (n : Nat) (E : zE) (S : zS) (a0 : Nat) (y1 : Int64) (M : zH) : Option (zH) :=
  (zlen S 15 a0).bind fun v_3 =>
  F_Ja_fillJ_b6 n E S (a0, y1, 0, v_3, M)
theorem K_Ja_fillJ_L6 (n : Nat) (E : zE) (S : zS) (r6 : Nat × Int64 × Int32 × Int32 × zH → Option (zH)) (a0 : Nat) (y1 : Int64) (x3 : Int32) (x4 : Int32) (M : zH) (M' : zH) (hr6 : ∀ (a0 : Nat) (y1 : Int64) (x3 : Int32) (x4 : Int32) (M : zH), r6 (a0, y1, x3, x4, M) = some M' → zG E Y_Ja_fillJ (none, S, M') 6 [(0, .ref a0), (1, .long y1), (3, .int x3), (4, .int x4)] [] S M 0 0) (h : F_Ja_fillJ_L6 n E S r6 a0 y1 x3 x4 M = some M') : zG E Y_Ja_fillJ (none, S, M') 6 [(0, .ref a0), (1, .long y1), (3, .int x3), (4, .int x4)] [] S M 0 0 := by
  unfold F_Ja_fillJ_L6 at h
  refine zi_iload_n 2 d_Ja_fillJ_6 rfl ?_
  refine zi_iload 3 d_Ja_fillJ_7 rfl ?_
  refine zi_icmp_ge (tgt := 22) d_Ja_fillJ_9 rfl (fun c_1 => ?_) (fun c_1 => ?_)
  · rw [if_pos c_1] at h
    cases h
    exact zo_ret d_Ja_fillJ_22 (Nat.le_of_ble_eq_true rfl) (Nat.le_of_ble_eq_true rfl) rfl
  · rw [if_neg c_1] at h
    refine zi_aload_n 0 d_Ja_fillJ_12 rfl ?_
    refine zi_iload_n 2 d_Ja_fillJ_13 rfl ?_
    refine zi_lload_n 1 d_Ja_fillJ_14 rfl ?_
    obtain ⟨m_2, em_2, h⟩ := zbind h
    refine zo_last 16 d_Ja_fillJ_15 em_2 rfl ?_
    refine zi_iinc 2 (x3 + 1) [(3, .int (x3 + 1)), (0, .ref a0), (1, .long y1), (4, .int x4)] d_Ja_fillJ_16 rfl rfl (by decide) rfl ?_
    refine zi_goto (tgt := 6) d_Ja_fillJ_19 rfl ?_
    refine zi_lo [(0, .ref a0), (1, .long y1), (3, .int (x3 + 1)), (4, .int x4)] [1, 2, 0, 3] rfl ?_
    exact hr6 a0 y1 (x3 + 1) x4 m_2 h
theorem K_Ja_fillJ_b6 (n : Nat) (E : zE) (S : zS) (a0 : Nat) (y1 : Int64) (x3 : Int32) (x4 : Int32) (M : zH) (M' : zH)  (h : F_Ja_fillJ_b6 n E S (a0, y1, x3, x4, M) = some M') : zG E Y_Ja_fillJ (none, S, M') 6 [(0, .ref a0), (1, .long y1), (3, .int x3), (4, .int x4)] [] S M 0 0 := by
  have key : ∀ (k : Nat) (a0 : Nat) (y1 : Int64) (x3 : Int32) (x4 : Int32) (M : zH), zfix (fun r6 s => F_Ja_fillJ_L6 n E S r6 s.1 s.2.1 s.2.2.1 s.2.2.2.1 s.2.2.2.2) k (a0, y1, x3, x4, M) = some M' → zG E Y_Ja_fillJ (none, S, M') 6 [(0, .ref a0), (1, .long y1), (3, .int x3), (4, .int x4)] [] S M 0 0 := by
    intro k
    induction k with
    | zero => intro a0 y1 x3 x4 M h; cases h
    | succ k ih => intro a0 y1 x3 x4 M h; exact K_Ja_fillJ_L6 n E S _ a0 y1 x3 x4 M M'  (fun a0 y1 x3 x4 M h => ih a0 y1 x3 x4 M h) h
  exact key n a0 y1 x3 x4 M h
theorem K_Ja_fillJ (n : Nat) (E : zE) (S : zS) (a0 : Nat) (y1 : Int64) (M : zH) (M' : zH)  (h : F_Ja_fillJ n E S a0 y1 M = some M') : zG E Y_Ja_fillJ (none, S, M') 0 [(0, .ref a0), (1, .long y1)] [] S M 0 0 := by
  unfold F_Ja_fillJ at h
  refine zi_iconst 0 d_Ja_fillJ_0 rfl ?_
  refine zi_istore_n [(3, .int 0), (0, .ref a0), (1, .long y1)] d_Ja_fillJ_1 (by decide) rfl ?_
  refine zi_aload_n 1 d_Ja_fillJ_2 rfl ?_
  obtain ⟨v_3, ev_3, h⟩ := zbind h
  refine zo_alen 4 d_Ja_fillJ_3 ev_3 (by decide) rfl ?_
  refine zi_istore [(4, .int v_3), (3, .int 0), (0, .ref a0), (1, .long y1)] d_Ja_fillJ_4 (by decide) rfl ?_
  refine zi_lo [(0, .ref a0), (1, .long y1), (3, .int 0), (4, .int v_3)] [2, 3, 1, 0] rfl ?_
  exact K_Ja_fillJ_b6 n E S a0 y1 0 v_3 M M'  h
theorem C_Ja_fillJ (n : Nat) (E : zE) (S : zS) (a0 : Nat) (y1 : Int64) (M : zH) (M' : zH) (h : F_Ja_fillJ n E S a0 y1 M = some M') : zC E Y_Ja_fillJ [.ref a0, .long y1] S M (none, S, M') :=
  zC.of (Or.inl (show plainName "java/util/Arrays" = true by decide)) (Nat.le_of_ble_eq_true rfl) (trivial) (K_Ja_fillJ n E S a0 y1 M M' h)
theorem d_Pa_chanceOfFew_0 : decode (yB Y_Pa_chanceOfFew) 0 = .ok (.aload_n 0, 1) := by decide +kernel
theorem d_Pa_chanceOfFew_1 : decode (yB Y_Pa_chanceOfFew) 1 = .ok (.getfield 34, 3) := by decide +kernel
theorem d_Pa_chanceOfFew_4 : decode (yB Y_Pa_chanceOfFew) 4 = .ok (.lconst 0, 1) := by decide +kernel
theorem d_Pa_chanceOfFew_5 : decode (yB Y_Pa_chanceOfFew) 5 = .ok (.invokestatic 182, 3) := by decide +kernel
theorem d_Pa_chanceOfFew_8 : decode (yB Y_Pa_chanceOfFew) 8 = .ok (.aload_n 0, 1) := by decide +kernel
theorem d_Pa_chanceOfFew_9 : decode (yB Y_Pa_chanceOfFew) 9 = .ok (.getfield 34, 3) := by decide +kernel
theorem d_Pa_chanceOfFew_12 : decode (yB Y_Pa_chanceOfFew) 12 = .ok (.iconst 0, 1) := by decide +kernel
theorem d_Pa_chanceOfFew_13 : decode (yB Y_Pa_chanceOfFew) 13 = .ok (.ldc2_w 185, 3) := by decide +kernel
theorem d_Pa_chanceOfFew_16 : decode (yB Y_Pa_chanceOfFew) 16 = .ok (.lastore, 1) := by decide +kernel
theorem d_Pa_chanceOfFew_17 : decode (yB Y_Pa_chanceOfFew) 17 = .ok (.iconst 0, 1) := by decide +kernel
theorem d_Pa_chanceOfFew_18 : decode (yB Y_Pa_chanceOfFew) 18 = .ok (.istore 4, 2) := by decide +kernel
theorem d_Pa_chanceOfFew_20 : decode (yB Y_Pa_chanceOfFew) 20 = .ok (.iload 4, 2) := by decide +kernel
theorem d_Pa_chanceOfFew_22 : decode (yB Y_Pa_chanceOfFew) 22 = .ok (.iload_n 2, 1) := by decide +kernel
theorem d_Pa_chanceOfFew_23 : decode (yB Y_Pa_chanceOfFew) 23 = .ok (.if_icmp .ge 83, 3) := by decide +kernel
theorem d_Pa_chanceOfFew_26 : decode (yB Y_Pa_chanceOfFew) 26 = .ok (.aload_n 0, 1) := by decide +kernel
theorem d_Pa_chanceOfFew_27 : decode (yB Y_Pa_chanceOfFew) 27 = .ok (.getfield 34, 3) := by decide +kernel
theorem d_Pa_chanceOfFew_30 : decode (yB Y_Pa_chanceOfFew) 30 = .ok (.arraylength, 1) := by decide +kernel
theorem d_Pa_chanceOfFew_31 : decode (yB Y_Pa_chanceOfFew) 31 = .ok (.iconst 1, 1) := by decide +kernel
theorem d_Pa_chanceOfFew_32 : decode (yB Y_Pa_chanceOfFew) 32 = .ok (.isub, 1) := by decide +kernel
theorem d_Pa_chanceOfFew_33 : decode (yB Y_Pa_chanceOfFew) 33 = .ok (.istore 5, 2) := by decide +kernel
theorem d_Pa_chanceOfFew_35 : decode (yB Y_Pa_chanceOfFew) 35 = .ok (.iload 5, 2) := by decide +kernel
theorem d_Pa_chanceOfFew_37 : decode (yB Y_Pa_chanceOfFew) 37 = .ok (.ifCond .lt 63, 3) := by decide +kernel
theorem d_Pa_chanceOfFew_40 : decode (yB Y_Pa_chanceOfFew) 40 = .ok (.iload 5, 2) := by decide +kernel
theorem d_Pa_chanceOfFew_42 : decode (yB Y_Pa_chanceOfFew) 42 = .ok (.ifCond .le 22, 3) := by decide +kernel
theorem d_Pa_chanceOfFew_45 : decode (yB Y_Pa_chanceOfFew) 45 = .ok (.aload_n 0, 1) := by decide +kernel
theorem d_Pa_chanceOfFew_46 : decode (yB Y_Pa_chanceOfFew) 46 = .ok (.getfield 34, 3) := by decide +kernel
theorem d_Pa_chanceOfFew_49 : decode (yB Y_Pa_chanceOfFew) 49 = .ok (.iload 5, 2) := by decide +kernel
theorem d_Pa_chanceOfFew_51 : decode (yB Y_Pa_chanceOfFew) 51 = .ok (.iconst 1, 1) := by decide +kernel
theorem d_Pa_chanceOfFew_52 : decode (yB Y_Pa_chanceOfFew) 52 = .ok (.isub, 1) := by decide +kernel
theorem d_Pa_chanceOfFew_53 : decode (yB Y_Pa_chanceOfFew) 53 = .ok (.laload, 1) := by decide +kernel
theorem d_Pa_chanceOfFew_54 : decode (yB Y_Pa_chanceOfFew) 54 = .ok (.iload_n 3, 1) := by decide +kernel
theorem d_Pa_chanceOfFew_55 : decode (yB Y_Pa_chanceOfFew) 55 = .ok (.i2l, 1) := by decide +kernel
theorem d_Pa_chanceOfFew_56 : decode (yB Y_Pa_chanceOfFew) 56 = .ok (.lmul, 1) := by decide +kernel
theorem d_Pa_chanceOfFew_57 : decode (yB Y_Pa_chanceOfFew) 57 = .ok (.ldc2_w 187, 3) := by decide +kernel
theorem d_Pa_chanceOfFew_60 : decode (yB Y_Pa_chanceOfFew) 60 = .ok (.ldiv, 1) := by decide +kernel
theorem d_Pa_chanceOfFew_61 : decode (yB Y_Pa_chanceOfFew) 61 = .ok (.goto 4, 3) := by decide +kernel
theorem d_Pa_chanceOfFew_64 : decode (yB Y_Pa_chanceOfFew) 64 = .ok (.lconst 0, 1) := by decide +kernel
theorem d_Pa_chanceOfFew_65 : decode (yB Y_Pa_chanceOfFew) 65 = .ok (.lstore 6, 2) := by decide +kernel
theorem d_Pa_chanceOfFew_67 : decode (yB Y_Pa_chanceOfFew) 67 = .ok (.aload_n 0, 1) := by decide +kernel
theorem d_Pa_chanceOfFew_68 : decode (yB Y_Pa_chanceOfFew) 68 = .ok (.getfield 34, 3) := by decide +kernel
theorem d_Pa_chanceOfFew_71 : decode (yB Y_Pa_chanceOfFew) 71 = .ok (.iload 5, 2) := by decide +kernel
theorem d_Pa_chanceOfFew_73 : decode (yB Y_Pa_chanceOfFew) 73 = .ok (.aload_n 0, 1) := by decide +kernel
theorem d_Pa_chanceOfFew_74 : decode (yB Y_Pa_chanceOfFew) 74 = .ok (.getfield 34, 3) := by decide +kernel
theorem d_Pa_chanceOfFew_77 : decode (yB Y_Pa_chanceOfFew) 77 = .ok (.iload 5, 2) := by decide +kernel
theorem d_Pa_chanceOfFew_79 : decode (yB Y_Pa_chanceOfFew) 79 = .ok (.laload, 1) := by decide +kernel
theorem d_Pa_chanceOfFew_80 : decode (yB Y_Pa_chanceOfFew) 80 = .ok (.bipush 10, 2) := by decide +kernel
theorem d_Pa_chanceOfFew_82 : decode (yB Y_Pa_chanceOfFew) 82 = .ok (.iload_n 3, 1) := by decide +kernel
theorem d_Pa_chanceOfFew_83 : decode (yB Y_Pa_chanceOfFew) 83 = .ok (.isub, 1) := by decide +kernel
theorem d_Pa_chanceOfFew_84 : decode (yB Y_Pa_chanceOfFew) 84 = .ok (.i2l, 1) := by decide +kernel
theorem d_Pa_chanceOfFew_85 : decode (yB Y_Pa_chanceOfFew) 85 = .ok (.lmul, 1) := by decide +kernel
theorem d_Pa_chanceOfFew_86 : decode (yB Y_Pa_chanceOfFew) 86 = .ok (.ldc2_w 187, 3) := by decide +kernel
theorem d_Pa_chanceOfFew_89 : decode (yB Y_Pa_chanceOfFew) 89 = .ok (.ldiv, 1) := by decide +kernel
theorem d_Pa_chanceOfFew_90 : decode (yB Y_Pa_chanceOfFew) 90 = .ok (.lload 6, 2) := by decide +kernel
theorem d_Pa_chanceOfFew_92 : decode (yB Y_Pa_chanceOfFew) 92 = .ok (.ladd, 1) := by decide +kernel
theorem d_Pa_chanceOfFew_93 : decode (yB Y_Pa_chanceOfFew) 93 = .ok (.lastore, 1) := by decide +kernel
theorem d_Pa_chanceOfFew_94 : decode (yB Y_Pa_chanceOfFew) 94 = .ok (.iinc 5 (-1), 3) := by decide +kernel
theorem d_Pa_chanceOfFew_97 : decode (yB Y_Pa_chanceOfFew) 97 = .ok (.goto (-62), 3) := by decide +kernel
theorem d_Pa_chanceOfFew_100 : decode (yB Y_Pa_chanceOfFew) 100 = .ok (.iinc 4 1, 3) := by decide +kernel
theorem d_Pa_chanceOfFew_103 : decode (yB Y_Pa_chanceOfFew) 103 = .ok (.goto (-83), 3) := by decide +kernel
theorem d_Pa_chanceOfFew_106 : decode (yB Y_Pa_chanceOfFew) 106 = .ok (.lconst 0, 1) := by decide +kernel
theorem d_Pa_chanceOfFew_107 : decode (yB Y_Pa_chanceOfFew) 107 = .ok (.lstore 4, 2) := by decide +kernel
theorem d_Pa_chanceOfFew_109 : decode (yB Y_Pa_chanceOfFew) 109 = .ok (.iconst 0, 1) := by decide +kernel
theorem d_Pa_chanceOfFew_110 : decode (yB Y_Pa_chanceOfFew) 110 = .ok (.istore 6, 2) := by decide +kernel
theorem d_Pa_chanceOfFew_112 : decode (yB Y_Pa_chanceOfFew) 112 = .ok (.iload 6, 2) := by decide +kernel
theorem d_Pa_chanceOfFew_114 : decode (yB Y_Pa_chanceOfFew) 114 = .ok (.iload_n 1, 1) := by decide +kernel
theorem d_Pa_chanceOfFew_115 : decode (yB Y_Pa_chanceOfFew) 115 = .ok (.if_icmp .ge 31, 3) := by decide +kernel
theorem d_Pa_chanceOfFew_118 : decode (yB Y_Pa_chanceOfFew) 118 = .ok (.iload 6, 2) := by decide +kernel
theorem d_Pa_chanceOfFew_120 : decode (yB Y_Pa_chanceOfFew) 120 = .ok (.aload_n 0, 1) := by decide +kernel
theorem d_Pa_chanceOfFew_121 : decode (yB Y_Pa_chanceOfFew) 121 = .ok (.getfield 34, 3) := by decide +kernel
theorem d_Pa_chanceOfFew_124 : decode (yB Y_Pa_chanceOfFew) 124 = .ok (.arraylength, 1) := by decide +kernel
theorem d_Pa_chanceOfFew_125 : decode (yB Y_Pa_chanceOfFew) 125 = .ok (.if_icmp .ge 21, 3) := by decide +kernel
theorem d_Pa_chanceOfFew_128 : decode (yB Y_Pa_chanceOfFew) 128 = .ok (.lload 4, 2) := by decide +kernel
theorem d_Pa_chanceOfFew_130 : decode (yB Y_Pa_chanceOfFew) 130 = .ok (.aload_n 0, 1) := by decide +kernel
theorem d_Pa_chanceOfFew_131 : decode (yB Y_Pa_chanceOfFew) 131 = .ok (.getfield 34, 3) := by decide +kernel
theorem d_Pa_chanceOfFew_134 : decode (yB Y_Pa_chanceOfFew) 134 = .ok (.iload 6, 2) := by decide +kernel
theorem d_Pa_chanceOfFew_136 : decode (yB Y_Pa_chanceOfFew) 136 = .ok (.laload, 1) := by decide +kernel
theorem d_Pa_chanceOfFew_137 : decode (yB Y_Pa_chanceOfFew) 137 = .ok (.ladd, 1) := by decide +kernel
theorem d_Pa_chanceOfFew_138 : decode (yB Y_Pa_chanceOfFew) 138 = .ok (.lstore 4, 2) := by decide +kernel
theorem d_Pa_chanceOfFew_140 : decode (yB Y_Pa_chanceOfFew) 140 = .ok (.iinc 6 1, 3) := by decide +kernel
theorem d_Pa_chanceOfFew_143 : decode (yB Y_Pa_chanceOfFew) 143 = .ok (.goto (-31), 3) := by decide +kernel
theorem d_Pa_chanceOfFew_146 : decode (yB Y_Pa_chanceOfFew) 146 = .ok (.lload 4, 2) := by decide +kernel
theorem d_Pa_chanceOfFew_148 : decode (yB Y_Pa_chanceOfFew) 148 = .ok (.lreturn, 1) := by decide +kernel
def F_Pa_chanceOfFew_b65 (n : Nat) (E : zE) (S : zS) (r20 : Nat × Int32 × Int32 × Int32 × Int32 × zH → Option (Int64 × zH)) (r35 : Nat × Int32 × Int32 × Int32 × Int32 × Int32 × zH → Option (Int64 × zH)) (a0 : Nat) (x1 : Int32) (x2 : Int32) (x3 : Int32) (x4 : Int32) (x5 : Int32) (t0 : Int64) (M : zH) : Option (Int64 × zH) :=
  (zgR S a0 4 7).bind fun b_1 =>
  (zldJ S M b_1 x5).bind fun v_2 =>
  (zdivJ (v_2 * ((10 - x3).toInt64)) 10).bind fun v_3 =>
  (zstJ S M b_1 x5 (v_3 + t0)).bind fun m_4 =>
  r35 (a0, x1, x2, x3, x4, x5 + (-1), m_4)
def F_Pa_chanceOfFew_L35 (n : Nat) (E : zE) (S : zS) (r20 : Nat × Int32 × Int32 × Int32 × Int32 × zH → Option (Int64 × zH)) (r35 : Nat × Int32 × Int32 × Int32 × Int32 × Int32 × zH → Option (Int64 × zH)) (a0 : Nat) (x1 : Int32) (x2 : Int32) (x3 : Int32) (x4 : Int32) (x5 : Int32) (M : zH) : Option (Int64 × zH) :=
  if x5 < 0 then
    r20 (a0, x1, x2, x3, x4 + 1, M)
  else
    if x5 ≤ 0 then
      F_Pa_chanceOfFew_b65 n E S r20 r35 a0 x1 x2 x3 x4 x5 0 M
    else
      (zgR S a0 4 7).bind fun b_7 =>
      (zldJ S M b_7 (x5 - 1)).bind fun v_8 =>
      (zdivJ (v_8 * x3.toInt64) 10).bind fun v_9 =>
      F_Pa_chanceOfFew_b65 n E S r20 r35 a0 x1 x2 x3 x4 x5 v_9 M
def F_Pa_chanceOfFew_b35 (n : Nat) (E : zE) (S : zS) (r20 : Nat × Int32 × Int32 × Int32 × Int32 × zH → Option (Int64 × zH)) : Nat × Int32 × Int32 × Int32 × Int32 × Int32 × zH → Option (Int64 × zH) := zfix (fun r35 s => F_Pa_chanceOfFew_L35 n E S r20 r35 s.1 s.2.1 s.2.2.1 s.2.2.2.1 s.2.2.2.2.1 s.2.2.2.2.2.1 s.2.2.2.2.2.2) n
def F_Pa_chanceOfFew_L112 (n : Nat) (E : zE) (S : zS) (r112 : Nat × Int32 × Int64 × Int32 × zH → Option (Int64 × zH)) (a0 : Nat) (x1 : Int32) (y4 : Int64) (x6 : Int32) (M : zH) : Option (Int64 × zH) :=
  if x1 ≤ x6 then
    some (y4, M)
  else
    (zgR S a0 4 7).bind fun b_11 =>
    (zlen S 15 b_11).bind fun v_12 =>
    if v_12 ≤ x6 then
      some (y4, M)
    else
      (zldJ S M b_11 x6).bind fun v_14 =>
      r112 (a0, x1, y4 + v_14, x6 + 1, M)
def F_Pa_chanceOfFew_b112 (n : Nat) (E : zE) (S : zS) : Nat × Int32 × Int64 × Int32 × zH → Option (Int64 × zH) := zfix (fun r112 s => F_Pa_chanceOfFew_L112 n E S r112 s.1 s.2.1 s.2.2.1 s.2.2.2.1 s.2.2.2.2) n
def F_Pa_chanceOfFew_L20 (n : Nat) (E : zE) (S : zS) (r20 : Nat × Int32 × Int32 × Int32 × Int32 × zH → Option (Int64 × zH)) (a0 : Nat) (x1 : Int32) (x2 : Int32) (x3 : Int32) (x4 : Int32) (M : zH) : Option (Int64 × zH) :=
  if x2 ≤ x4 then
    F_Pa_chanceOfFew_b112 n E S (a0, x1, 0, 0, M)
  else
    (zgR S a0 4 7).bind fun b_16 =>
    (zlen S 15 b_16).bind fun v_17 =>
    F_Pa_chanceOfFew_b35 n E S r20 (a0, x1, x2, x3, x4, v_17 - 1, M)
def F_Pa_chanceOfFew_b20 (n : Nat) (E : zE) (S : zS) : Nat × Int32 × Int32 × Int32 × Int32 × zH → Option (Int64 × zH) := zfix (fun r20 s => F_Pa_chanceOfFew_L20 n E S r20 s.1 s.2.1 s.2.2.1 s.2.2.2.1 s.2.2.2.2.1 s.2.2.2.2.2) n
def F_Pa_chanceOfFew (n : Nat) (E : zE) (S : zS) (a0 : Nat) (x1 : Int32) (x2 : Int32) (x3 : Int32) (M : zH) : Option (Int64 × zH) :=
  (zgR S a0 4 7).bind fun b_18 =>
  (F_Ja_fillJ n E S b_18 0 M).bind fun q_19 =>
  (zstJ S q_19 b_18 0 1000000000000).bind fun m_20 =>
  F_Pa_chanceOfFew_b20 n E S (a0, x1, x2, x3, 0, m_20)
theorem K_Pa_chanceOfFew_b65 (n : Nat) (E : zE) (S : zS) (r20 : Nat × Int32 × Int32 × Int32 × Int32 × zH → Option (Int64 × zH)) (r35 : Nat × Int32 × Int32 × Int32 × Int32 × Int32 × zH → Option (Int64 × zH)) (a0 : Nat) (x1 : Int32) (x2 : Int32) (x3 : Int32) (x4 : Int32) (x5 : Int32) (t0 : Int64) (M : zH) (r : Int64) (M' : zH) (hr20 : ∀ (a0 : Nat) (x1 : Int32) (x2 : Int32) (x3 : Int32) (x4 : Int32) (M : zH), r20 (a0, x1, x2, x3, x4, M) = some (r, M') → zG E Y_Pa_chanceOfFew (some (.long r), S, M') 20 [(0, .ref a0), (1, .int x1), (2, .int x2), (3, .int x3), (4, .int x4)] [] S M 0 0) (hr35 : ∀ (a0 : Nat) (x1 : Int32) (x2 : Int32) (x3 : Int32) (x4 : Int32) (x5 : Int32) (M : zH), r35 (a0, x1, x2, x3, x4, x5, M) = some (r, M') → zG E Y_Pa_chanceOfFew (some (.long r), S, M') 35 [(0, .ref a0), (1, .int x1), (2, .int x2), (3, .int x3), (4, .int x4), (5, .int x5)] [] S M 0 0) (h : F_Pa_chanceOfFew_b65 n E S r20 r35 a0 x1 x2 x3 x4 x5 t0 M = some (r, M')) : zG E Y_Pa_chanceOfFew (some (.long r), S, M') 65 [(0, .ref a0), (1, .int x1), (2, .int x2), (3, .int x3), (4, .int x4), (5, .int x5)] [.long t0] S M 0 0 := by
  unfold F_Pa_chanceOfFew_b65 at h
  refine zi_lstore [(6, .long t0), (0, .ref a0), (1, .int x1), (2, .int x2), (3, .int x3), (4, .int x4), (5, .int x5)] d_Pa_chanceOfFew_65 (by decide) rfl ?_
  refine zi_aload_n 1 d_Pa_chanceOfFew_67 rfl ?_
  obtain ⟨b_1, eb_1, h⟩ := zbind h
  refine zo_getR 71 zkd_4 7 d_Pa_chanceOfFew_68 eb_1 rfl tw_305 rfl ?_
  refine zi_iload 6 d_Pa_chanceOfFew_71 rfl ?_
  refine zi_aload_n 1 d_Pa_chanceOfFew_73 rfl ?_
  refine zo_getR 77 zkd_4 7 d_Pa_chanceOfFew_74 eb_1 rfl tw_305 rfl ?_
  refine zi_iload 6 d_Pa_chanceOfFew_77 rfl ?_
  obtain ⟨v_2, ev_2, h⟩ := zbind h
  refine zo_lald 80 d_Pa_chanceOfFew_79 ev_2 rfl ?_
  refine zi_bipush 10 d_Pa_chanceOfFew_80 rfl ?_
  refine zi_iload_n 4 d_Pa_chanceOfFew_82 rfl ?_
  refine zi_isub d_Pa_chanceOfFew_83 ?_
  refine zi_i2l d_Pa_chanceOfFew_84 ?_
  refine zi_lmul d_Pa_chanceOfFew_85 ?_
  refine zi_ldc2 d_Pa_chanceOfFew_86 tw_1144 ?_
  obtain ⟨v_3, ev_3, h⟩ := zbind h
  refine zo_ldiv 90 d_Pa_chanceOfFew_89 ev_3 rfl ?_
  refine zi_lload 0 d_Pa_chanceOfFew_90 rfl ?_
  refine zi_ladd d_Pa_chanceOfFew_92 ?_
  obtain ⟨m_4, em_4, h⟩ := zbind h
  refine zo_last 94 d_Pa_chanceOfFew_93 em_4 rfl ?_
  refine zi_iinc 6 (x5 + (-1)) [(5, .int (x5 + (-1))), (6, .long t0), (0, .ref a0), (1, .int x1), (2, .int x2), (3, .int x3), (4, .int x4)] d_Pa_chanceOfFew_94 rfl rfl (by decide) rfl ?_
  refine zi_goto (tgt := 35) d_Pa_chanceOfFew_97 rfl ?_
  refine zi_lo [(0, .ref a0), (1, .int x1), (2, .int x2), (3, .int x3), (4, .int x4), (5, .int (x5 + (-1)))] [2, 3, 4, 5, 6, 0] rfl ?_
  exact hr35 a0 x1 x2 x3 x4 (x5 + (-1)) m_4 h
theorem K_Pa_chanceOfFew_L35 (n : Nat) (E : zE) (S : zS) (r20 : Nat × Int32 × Int32 × Int32 × Int32 × zH → Option (Int64 × zH)) (r35 : Nat × Int32 × Int32 × Int32 × Int32 × Int32 × zH → Option (Int64 × zH)) (a0 : Nat) (x1 : Int32) (x2 : Int32) (x3 : Int32) (x4 : Int32) (x5 : Int32) (M : zH) (r : Int64) (M' : zH) (hr20 : ∀ (a0 : Nat) (x1 : Int32) (x2 : Int32) (x3 : Int32) (x4 : Int32) (M : zH), r20 (a0, x1, x2, x3, x4, M) = some (r, M') → zG E Y_Pa_chanceOfFew (some (.long r), S, M') 20 [(0, .ref a0), (1, .int x1), (2, .int x2), (3, .int x3), (4, .int x4)] [] S M 0 0) (hr35 : ∀ (a0 : Nat) (x1 : Int32) (x2 : Int32) (x3 : Int32) (x4 : Int32) (x5 : Int32) (M : zH), r35 (a0, x1, x2, x3, x4, x5, M) = some (r, M') → zG E Y_Pa_chanceOfFew (some (.long r), S, M') 35 [(0, .ref a0), (1, .int x1), (2, .int x2), (3, .int x3), (4, .int x4), (5, .int x5)] [] S M 0 0) (h : F_Pa_chanceOfFew_L35 n E S r20 r35 a0 x1 x2 x3 x4 x5 M = some (r, M')) : zG E Y_Pa_chanceOfFew (some (.long r), S, M') 35 [(0, .ref a0), (1, .int x1), (2, .int x2), (3, .int x3), (4, .int x4), (5, .int x5)] [] S M 0 0 := by
  unfold F_Pa_chanceOfFew_L35 at h
  refine zi_iload 5 d_Pa_chanceOfFew_35 rfl ?_
  refine zi_if_lt (tgt := 100) d_Pa_chanceOfFew_37 rfl (fun c_5 => ?_) (fun c_5 => ?_)
  · rw [if_pos c_5] at h
    refine zi_iinc 4 (x4 + 1) [(4, .int (x4 + 1)), (0, .ref a0), (1, .int x1), (2, .int x2), (3, .int x3), (5, .int x5)] d_Pa_chanceOfFew_100 rfl rfl (by decide) rfl ?_
    refine zi_goto (tgt := 20) d_Pa_chanceOfFew_103 rfl ?_
    refine zi_lo [(0, .ref a0), (1, .int x1), (2, .int x2), (3, .int x3), (4, .int (x4 + 1))] [1, 2, 3, 4, 0] rfl ?_
    exact hr20 a0 x1 x2 x3 (x4 + 1) M h
  · rw [if_neg c_5] at h
    refine zi_iload 5 d_Pa_chanceOfFew_40 rfl ?_
    refine zi_if_le (tgt := 64) d_Pa_chanceOfFew_42 rfl (fun c_6 => ?_) (fun c_6 => ?_)
    · rw [if_pos c_6] at h
      refine zi_lconst 0 d_Pa_chanceOfFew_64 rfl ?_
      refine zi_lo [(0, .ref a0), (1, .int x1), (2, .int x2), (3, .int x3), (4, .int x4), (5, .int x5)] [0, 1, 2, 3, 4, 5] rfl ?_
      exact K_Pa_chanceOfFew_b65 n E S r20 r35 a0 x1 x2 x3 x4 x5 0 M r M' hr20 hr35 h
    · rw [if_neg c_6] at h
      refine zi_aload_n 0 d_Pa_chanceOfFew_45 rfl ?_
      obtain ⟨b_7, eb_7, h⟩ := zbind h
      refine zo_getR 49 zkd_4 7 d_Pa_chanceOfFew_46 eb_7 rfl tw_305 rfl ?_
      refine zi_iload 5 d_Pa_chanceOfFew_49 rfl ?_
      refine zi_iconst 1 d_Pa_chanceOfFew_51 rfl ?_
      refine zi_isub d_Pa_chanceOfFew_52 ?_
      obtain ⟨v_8, ev_8, h⟩ := zbind h
      refine zo_lald 54 d_Pa_chanceOfFew_53 ev_8 rfl ?_
      refine zi_iload_n 3 d_Pa_chanceOfFew_54 rfl ?_
      refine zi_i2l d_Pa_chanceOfFew_55 ?_
      refine zi_lmul d_Pa_chanceOfFew_56 ?_
      refine zi_ldc2 d_Pa_chanceOfFew_57 tw_1144 ?_
      obtain ⟨v_9, ev_9, h⟩ := zbind h
      refine zo_ldiv 61 d_Pa_chanceOfFew_60 ev_9 rfl ?_
      refine zi_goto (tgt := 65) d_Pa_chanceOfFew_61 rfl ?_
      refine zi_lo [(0, .ref a0), (1, .int x1), (2, .int x2), (3, .int x3), (4, .int x4), (5, .int x5)] [0, 1, 2, 3, 4, 5] rfl ?_
      exact K_Pa_chanceOfFew_b65 n E S r20 r35 a0 x1 x2 x3 x4 x5 v_9 M r M' hr20 hr35 h
theorem K_Pa_chanceOfFew_b35 (n : Nat) (E : zE) (S : zS) (r20 : Nat × Int32 × Int32 × Int32 × Int32 × zH → Option (Int64 × zH)) (a0 : Nat) (x1 : Int32) (x2 : Int32) (x3 : Int32) (x4 : Int32) (x5 : Int32) (M : zH) (r : Int64) (M' : zH) (hr20 : ∀ (a0 : Nat) (x1 : Int32) (x2 : Int32) (x3 : Int32) (x4 : Int32) (M : zH), r20 (a0, x1, x2, x3, x4, M) = some (r, M') → zG E Y_Pa_chanceOfFew (some (.long r), S, M') 20 [(0, .ref a0), (1, .int x1), (2, .int x2), (3, .int x3), (4, .int x4)] [] S M 0 0) (h : F_Pa_chanceOfFew_b35 n E S r20 (a0, x1, x2, x3, x4, x5, M) = some (r, M')) : zG E Y_Pa_chanceOfFew (some (.long r), S, M') 35 [(0, .ref a0), (1, .int x1), (2, .int x2), (3, .int x3), (4, .int x4), (5, .int x5)] [] S M 0 0 := by
  have key : ∀ (k : Nat) (a0 : Nat) (x1 : Int32) (x2 : Int32) (x3 : Int32) (x4 : Int32) (x5 : Int32) (M : zH), zfix (fun r35 s => F_Pa_chanceOfFew_L35 n E S r20 r35 s.1 s.2.1 s.2.2.1 s.2.2.2.1 s.2.2.2.2.1 s.2.2.2.2.2.1 s.2.2.2.2.2.2) k (a0, x1, x2, x3, x4, x5, M) = some (r, M') → zG E Y_Pa_chanceOfFew (some (.long r), S, M') 35 [(0, .ref a0), (1, .int x1), (2, .int x2), (3, .int x3), (4, .int x4), (5, .int x5)] [] S M 0 0 := by
    intro k
    induction k with
    | zero => intro a0 x1 x2 x3 x4 x5 M h; cases h
    | succ k ih => intro a0 x1 x2 x3 x4 x5 M h; exact K_Pa_chanceOfFew_L35 n E S r20 _ a0 x1 x2 x3 x4 x5 M r M' hr20 (fun a0 x1 x2 x3 x4 x5 M h => ih a0 x1 x2 x3 x4 x5 M h) h
  exact key n a0 x1 x2 x3 x4 x5 M h
theorem K_Pa_chanceOfFew_L112 (n : Nat) (E : zE) (S : zS) (r112 : Nat × Int32 × Int64 × Int32 × zH → Option (Int64 × zH)) (a0 : Nat) (x1 : Int32) (y4 : Int64) (x6 : Int32) (M : zH) (r : Int64) (M' : zH) (hr112 : ∀ (a0 : Nat) (x1 : Int32) (y4 : Int64) (x6 : Int32) (M : zH), r112 (a0, x1, y4, x6, M) = some (r, M') → zG E Y_Pa_chanceOfFew (some (.long r), S, M') 112 [(0, .ref a0), (1, .int x1), (4, .long y4), (6, .int x6)] [] S M 0 0) (h : F_Pa_chanceOfFew_L112 n E S r112 a0 x1 y4 x6 M = some (r, M')) : zG E Y_Pa_chanceOfFew (some (.long r), S, M') 112 [(0, .ref a0), (1, .int x1), (4, .long y4), (6, .int x6)] [] S M 0 0 := by
  unfold F_Pa_chanceOfFew_L112 at h
  refine zi_iload 3 d_Pa_chanceOfFew_112 rfl ?_
  refine zi_iload_n 1 d_Pa_chanceOfFew_114 rfl ?_
  refine zi_icmp_ge (tgt := 146) d_Pa_chanceOfFew_115 rfl (fun c_10 => ?_) (fun c_10 => ?_)
  · rw [if_pos c_10] at h
    refine zi_lload 2 d_Pa_chanceOfFew_146 rfl ?_
    cases h
    exact zo_ret d_Pa_chanceOfFew_148 (Nat.le_of_ble_eq_true rfl) (Nat.le_of_ble_eq_true rfl) rfl
  · rw [if_neg c_10] at h
    refine zi_iload 3 d_Pa_chanceOfFew_118 rfl ?_
    refine zi_aload_n 0 d_Pa_chanceOfFew_120 rfl ?_
    obtain ⟨b_11, eb_11, h⟩ := zbind h
    refine zo_getR 124 zkd_4 7 d_Pa_chanceOfFew_121 eb_11 rfl tw_305 rfl ?_
    obtain ⟨v_12, ev_12, h⟩ := zbind h
    refine zo_alen 125 d_Pa_chanceOfFew_124 ev_12 (by decide) rfl ?_
    refine zi_icmp_ge (tgt := 146) d_Pa_chanceOfFew_125 rfl (fun c_13 => ?_) (fun c_13 => ?_)
    · rw [if_pos c_13] at h
      refine zi_lload 2 d_Pa_chanceOfFew_146 rfl ?_
      cases h
      exact zo_ret d_Pa_chanceOfFew_148 (Nat.le_of_ble_eq_true rfl) (Nat.le_of_ble_eq_true rfl) rfl
    · rw [if_neg c_13] at h
      refine zi_lload 2 d_Pa_chanceOfFew_128 rfl ?_
      refine zi_aload_n 0 d_Pa_chanceOfFew_130 rfl ?_
      refine zo_getR 134 zkd_4 7 d_Pa_chanceOfFew_131 eb_11 rfl tw_305 rfl ?_
      refine zi_iload 3 d_Pa_chanceOfFew_134 rfl ?_
      obtain ⟨v_14, ev_14, h⟩ := zbind h
      refine zo_lald 137 d_Pa_chanceOfFew_136 ev_14 rfl ?_
      refine zi_ladd d_Pa_chanceOfFew_137 ?_
      refine zi_lstore [(4, .long (y4 + v_14)), (0, .ref a0), (1, .int x1), (6, .int x6)] d_Pa_chanceOfFew_138 (by decide) rfl ?_
      refine zi_iinc 3 (x6 + 1) [(6, .int (x6 + 1)), (4, .long (y4 + v_14)), (0, .ref a0), (1, .int x1)] d_Pa_chanceOfFew_140 rfl rfl (by decide) rfl ?_
      refine zi_goto (tgt := 112) d_Pa_chanceOfFew_143 rfl ?_
      refine zi_lo [(0, .ref a0), (1, .int x1), (4, .long (y4 + v_14)), (6, .int (x6 + 1))] [2, 3, 1, 0] rfl ?_
      exact hr112 a0 x1 (y4 + v_14) (x6 + 1) M h
theorem K_Pa_chanceOfFew_b112 (n : Nat) (E : zE) (S : zS) (a0 : Nat) (x1 : Int32) (y4 : Int64) (x6 : Int32) (M : zH) (r : Int64) (M' : zH)  (h : F_Pa_chanceOfFew_b112 n E S (a0, x1, y4, x6, M) = some (r, M')) : zG E Y_Pa_chanceOfFew (some (.long r), S, M') 112 [(0, .ref a0), (1, .int x1), (4, .long y4), (6, .int x6)] [] S M 0 0 := by
  have key : ∀ (k : Nat) (a0 : Nat) (x1 : Int32) (y4 : Int64) (x6 : Int32) (M : zH), zfix (fun r112 s => F_Pa_chanceOfFew_L112 n E S r112 s.1 s.2.1 s.2.2.1 s.2.2.2.1 s.2.2.2.2) k (a0, x1, y4, x6, M) = some (r, M') → zG E Y_Pa_chanceOfFew (some (.long r), S, M') 112 [(0, .ref a0), (1, .int x1), (4, .long y4), (6, .int x6)] [] S M 0 0 := by
    intro k
    induction k with
    | zero => intro a0 x1 y4 x6 M h; cases h
    | succ k ih => intro a0 x1 y4 x6 M h; exact K_Pa_chanceOfFew_L112 n E S _ a0 x1 y4 x6 M r M'  (fun a0 x1 y4 x6 M h => ih a0 x1 y4 x6 M h) h
  exact key n a0 x1 y4 x6 M h
theorem K_Pa_chanceOfFew_L20 (n : Nat) (E : zE) (S : zS) (r20 : Nat × Int32 × Int32 × Int32 × Int32 × zH → Option (Int64 × zH)) (a0 : Nat) (x1 : Int32) (x2 : Int32) (x3 : Int32) (x4 : Int32) (M : zH) (r : Int64) (M' : zH) (hr20 : ∀ (a0 : Nat) (x1 : Int32) (x2 : Int32) (x3 : Int32) (x4 : Int32) (M : zH), r20 (a0, x1, x2, x3, x4, M) = some (r, M') → zG E Y_Pa_chanceOfFew (some (.long r), S, M') 20 [(0, .ref a0), (1, .int x1), (2, .int x2), (3, .int x3), (4, .int x4)] [] S M 0 0) (h : F_Pa_chanceOfFew_L20 n E S r20 a0 x1 x2 x3 x4 M = some (r, M')) : zG E Y_Pa_chanceOfFew (some (.long r), S, M') 20 [(0, .ref a0), (1, .int x1), (2, .int x2), (3, .int x3), (4, .int x4)] [] S M 0 0 := by
  unfold F_Pa_chanceOfFew_L20 at h
  refine zi_iload 4 d_Pa_chanceOfFew_20 rfl ?_
  refine zi_iload_n 2 d_Pa_chanceOfFew_22 rfl ?_
  refine zi_icmp_ge (tgt := 106) d_Pa_chanceOfFew_23 rfl (fun c_15 => ?_) (fun c_15 => ?_)
  · rw [if_pos c_15] at h
    refine zi_lconst 0 d_Pa_chanceOfFew_106 rfl ?_
    refine zi_lstore [(4, .long 0), (0, .ref a0), (1, .int x1), (2, .int x2), (3, .int x3)] d_Pa_chanceOfFew_107 (by decide) rfl ?_
    refine zi_iconst 0 d_Pa_chanceOfFew_109 rfl ?_
    refine zi_istore [(6, .int 0), (4, .long 0), (0, .ref a0), (1, .int x1), (2, .int x2), (3, .int x3)] d_Pa_chanceOfFew_110 (by decide) rfl ?_
    refine zi_lo [(0, .ref a0), (1, .int x1), (4, .long 0), (6, .int 0)] [2, 3, 1, 0] rfl ?_
    exact K_Pa_chanceOfFew_b112 n E S a0 x1 0 0 M r M'  h
  · rw [if_neg c_15] at h
    refine zi_aload_n 0 d_Pa_chanceOfFew_26 rfl ?_
    obtain ⟨b_16, eb_16, h⟩ := zbind h
    refine zo_getR 30 zkd_4 7 d_Pa_chanceOfFew_27 eb_16 rfl tw_305 rfl ?_
    obtain ⟨v_17, ev_17, h⟩ := zbind h
    refine zo_alen 31 d_Pa_chanceOfFew_30 ev_17 (by decide) rfl ?_
    refine zi_iconst 1 d_Pa_chanceOfFew_31 rfl ?_
    refine zi_isub d_Pa_chanceOfFew_32 ?_
    refine zi_istore [(5, .int (v_17 - 1)), (0, .ref a0), (1, .int x1), (2, .int x2), (3, .int x3), (4, .int x4)] d_Pa_chanceOfFew_33 (by decide) rfl ?_
    refine zi_lo [(0, .ref a0), (1, .int x1), (2, .int x2), (3, .int x3), (4, .int x4), (5, .int (v_17 - 1))] [1, 2, 3, 4, 5, 0] rfl ?_
    exact K_Pa_chanceOfFew_b35 n E S r20 a0 x1 x2 x3 x4 (v_17 - 1) M r M' hr20 h
theorem K_Pa_chanceOfFew_b20 (n : Nat) (E : zE) (S : zS) (a0 : Nat) (x1 : Int32) (x2 : Int32) (x3 : Int32) (x4 : Int32) (M : zH) (r : Int64) (M' : zH)  (h : F_Pa_chanceOfFew_b20 n E S (a0, x1, x2, x3, x4, M) = some (r, M')) : zG E Y_Pa_chanceOfFew (some (.long r), S, M') 20 [(0, .ref a0), (1, .int x1), (2, .int x2), (3, .int x3), (4, .int x4)] [] S M 0 0 := by
  have key : ∀ (k : Nat) (a0 : Nat) (x1 : Int32) (x2 : Int32) (x3 : Int32) (x4 : Int32) (M : zH), zfix (fun r20 s => F_Pa_chanceOfFew_L20 n E S r20 s.1 s.2.1 s.2.2.1 s.2.2.2.1 s.2.2.2.2.1 s.2.2.2.2.2) k (a0, x1, x2, x3, x4, M) = some (r, M') → zG E Y_Pa_chanceOfFew (some (.long r), S, M') 20 [(0, .ref a0), (1, .int x1), (2, .int x2), (3, .int x3), (4, .int x4)] [] S M 0 0 := by
    intro k
    induction k with
    | zero => intro a0 x1 x2 x3 x4 M h; cases h
    | succ k ih => intro a0 x1 x2 x3 x4 M h; exact K_Pa_chanceOfFew_L20 n E S _ a0 x1 x2 x3 x4 M r M'  (fun a0 x1 x2 x3 x4 M h => ih a0 x1 x2 x3 x4 M h) h
  exact key n a0 x1 x2 x3 x4 M h
theorem K_Pa_chanceOfFew (n : Nat) (E : zE) (S : zS) (a0 : Nat) (x1 : Int32) (x2 : Int32) (x3 : Int32) (M : zH) (r : Int64) (M' : zH)  (h : F_Pa_chanceOfFew n E S a0 x1 x2 x3 M = some (r, M')) : zG E Y_Pa_chanceOfFew (some (.long r), S, M') 0 [(0, .ref a0), (1, .int x1), (2, .int x2), (3, .int x3)] [] S M 0 0 := by
  unfold F_Pa_chanceOfFew at h
  refine zi_aload_n 0 d_Pa_chanceOfFew_0 rfl ?_
  obtain ⟨b_18, eb_18, h⟩ := zbind h
  refine zo_getR 4 zkd_4 7 d_Pa_chanceOfFew_1 eb_18 rfl tw_305 rfl ?_
  refine zi_lconst 0 d_Pa_chanceOfFew_4 rfl ?_
  obtain ⟨q_19, eq_19, h⟩ := zbind h
  refine zo_stat (k' := 0) (n' := 0) 8 [.ref b_18, .long 0] [] [] (C_Ja_fillJ n E S b_18 0 M q_19 eq_19) d_Pa_chanceOfFew_5 tw_1142 tw_1140 tw_1141 tw_3 dd_Ja_fillJ ⟨Nat.le_of_ble_eq_true rfl, Nat.le_of_ble_eq_true rfl, Nat.le_of_ble_eq_true rfl, Nat.le_of_ble_eq_true rfl⟩ (Nat.le_of_ble_eq_true rfl) rfl rfl rfl rfl ?_
  refine zi_aload_n 0 d_Pa_chanceOfFew_8 rfl ?_
  refine zo_getR 12 zkd_4 7 d_Pa_chanceOfFew_9 eb_18 rfl tw_305 rfl ?_
  refine zi_iconst 0 d_Pa_chanceOfFew_12 rfl ?_
  refine zi_ldc2 d_Pa_chanceOfFew_13 tw_1143 ?_
  obtain ⟨m_20, em_20, h⟩ := zbind h
  refine zo_last 17 d_Pa_chanceOfFew_16 em_20 rfl ?_
  refine zi_iconst 0 d_Pa_chanceOfFew_17 rfl ?_
  refine zi_istore [(4, .int 0), (0, .ref a0), (1, .int x1), (2, .int x2), (3, .int x3)] d_Pa_chanceOfFew_18 (by decide) rfl ?_
  refine zi_lo [(0, .ref a0), (1, .int x1), (2, .int x2), (3, .int x3), (4, .int 0)] [1, 2, 3, 4, 0] rfl ?_
  exact K_Pa_chanceOfFew_b20 n E S a0 x1 x2 x3 0 m_20 r M'  h
theorem C_Pa_chanceOfFew (n : Nat) (E : zE) (S : zS) (a0 : Nat) (x1 : Int32) (x2 : Int32) (x3 : Int32) (M : zH) (r : Int64) (M' : zH) (h : F_Pa_chanceOfFew n E S a0 x1 x2 x3 M = some (r, M')) : zC E Y_Pa_chanceOfFew [.ref a0, .int x1, .int x2, .int x3] S M (some (.long r), S, M') :=
  zC.of (Or.inl (show plainName "NightColander$Paper" = true by decide)) (Nat.le_of_ble_eq_true rfl) (trivial) (K_Pa_chanceOfFew n E S a0 x1 x2 x3 M r M' h)
