/-! METHODS (printed by gen/build.py): Mo_ones Mo_cleared Mo_drought Mo_luck Mo_together Mo_settled Mo_few -/
theorem d_Mo_ones_0 : decode (yB Y_Mo_ones) 0 = .ok (.iconst 0, 1) := by decide +kernel
theorem d_Mo_ones_1 : decode (yB Y_Mo_ones) 1 = .ok (.istore_n 1, 1) := by decide +kernel
theorem d_Mo_ones_2 : decode (yB Y_Mo_ones) 2 = .ok (.iconst 0, 1) := by decide +kernel
theorem d_Mo_ones_3 : decode (yB Y_Mo_ones) 3 = .ok (.istore_n 2, 1) := by decide +kernel
theorem d_Mo_ones_4 : decode (yB Y_Mo_ones) 4 = .ok (.iload_n 2, 1) := by decide +kernel
theorem d_Mo_ones_5 : decode (yB Y_Mo_ones) 5 = .ok (.bipush 8, 2) := by decide +kernel
theorem d_Mo_ones_7 : decode (yB Y_Mo_ones) 7 = .ok (.if_icmp .ge 17, 3) := by decide +kernel
theorem d_Mo_ones_10 : decode (yB Y_Mo_ones) 10 = .ok (.iload_n 1, 1) := by decide +kernel
theorem d_Mo_ones_11 : decode (yB Y_Mo_ones) 11 = .ok (.iload_n 0, 1) := by decide +kernel
theorem d_Mo_ones_12 : decode (yB Y_Mo_ones) 12 = .ok (.iload_n 2, 1) := by decide +kernel
theorem d_Mo_ones_13 : decode (yB Y_Mo_ones) 13 = .ok (.ishr, 1) := by decide +kernel
theorem d_Mo_ones_14 : decode (yB Y_Mo_ones) 14 = .ok (.iconst 1, 1) := by decide +kernel
theorem d_Mo_ones_15 : decode (yB Y_Mo_ones) 15 = .ok (.iand, 1) := by decide +kernel
theorem d_Mo_ones_16 : decode (yB Y_Mo_ones) 16 = .ok (.iadd, 1) := by decide +kernel
theorem d_Mo_ones_17 : decode (yB Y_Mo_ones) 17 = .ok (.istore_n 1, 1) := by decide +kernel
theorem d_Mo_ones_18 : decode (yB Y_Mo_ones) 18 = .ok (.iinc 2 1, 3) := by decide +kernel
theorem d_Mo_ones_21 : decode (yB Y_Mo_ones) 21 = .ok (.goto (-17), 3) := by decide +kernel
theorem d_Mo_ones_24 : decode (yB Y_Mo_ones) 24 = .ok (.iload_n 1, 1) := by decide +kernel
theorem d_Mo_ones_25 : decode (yB Y_Mo_ones) 25 = .ok (.ireturn, 1) := by decide +kernel
def F_Mo_ones_L4 (n : Nat) (E : zE) (S : zS) (r4 : Int32 × Int32 × Int32 × zH → Option (Int32 × zH)) (x0 : Int32) (x1 : Int32) (x2 : Int32) (M : zH) : Option (Int32 × zH) :=
  if 8 ≤ x2 then
    some (x1, M)
  else
    r4 (x0, x1 + ((x0 >>> (x2 &&& (31 : Int32))) &&& (1 : Int32)), x2 + 1, M)
def F_Mo_ones_b4 (n : Nat) (E : zE) (S : zS) : Int32 × Int32 × Int32 × zH → Option (Int32 × zH) := zfix (fun r4 s => F_Mo_ones_L4 n E S r4 s.1 s.2.1 s.2.2.1 s.2.2.2) n
def F_Mo_ones (n : Nat) (E : zE) (S : zS) (x0 : Int32) (M : zH) : Option (Int32 × zH) :=
  F_Mo_ones_b4 n E S (x0, 0, 0, M)
theorem K_Mo_ones_L4 (n : Nat) (E : zE) (S : zS) (r4 : Int32 × Int32 × Int32 × zH → Option (Int32 × zH)) (x0 : Int32) (x1 : Int32) (x2 : Int32) (M : zH) (r : Int32) (M' : zH) (hr4 : ∀ (x0 : Int32) (x1 : Int32) (x2 : Int32) (M : zH), r4 (x0, x1, x2, M) = some (r, M') → zG E Y_Mo_ones (some (.int r), S, M') 4 [(0, .int x0), (1, .int x1), (2, .int x2)] [] S M 0 0) (h : F_Mo_ones_L4 n E S r4 x0 x1 x2 M = some (r, M')) : zG E Y_Mo_ones (some (.int r), S, M') 4 [(0, .int x0), (1, .int x1), (2, .int x2)] [] S M 0 0 := by
  unfold F_Mo_ones_L4 at h
  refine zi_iload_n 2 d_Mo_ones_4 rfl ?_
  refine zi_bipush 8 d_Mo_ones_5 rfl ?_
  refine zi_icmp_ge (tgt := 24) d_Mo_ones_7 rfl (fun c_1 => ?_) (fun c_1 => ?_)
  · rw [if_pos c_1] at h
    refine zi_iload_n 1 d_Mo_ones_24 rfl ?_
    cases h
    exact zo_ret d_Mo_ones_25 (Nat.le_of_ble_eq_true rfl) (Nat.le_of_ble_eq_true rfl) rfl
  · rw [if_neg c_1] at h
    refine zi_iload_n 1 d_Mo_ones_10 rfl ?_
    refine zi_iload_n 0 d_Mo_ones_11 rfl ?_
    refine zi_iload_n 2 d_Mo_ones_12 rfl ?_
    refine zi_ishr d_Mo_ones_13 ?_
    refine zi_iconst 1 d_Mo_ones_14 rfl ?_
    refine zi_iand d_Mo_ones_15 ?_
    refine zi_iadd d_Mo_ones_16 ?_
    refine zi_istore_n [(1, .int (x1 + ((x0 >>> (x2 &&& (31 : Int32))) &&& (1 : Int32)))), (0, .int x0), (2, .int x2)] d_Mo_ones_17 (by decide) rfl ?_
    refine zi_iinc 2 (x2 + 1) [(2, .int (x2 + 1)), (1, .int (x1 + ((x0 >>> (x2 &&& (31 : Int32))) &&& (1 : Int32)))), (0, .int x0)] d_Mo_ones_18 rfl rfl (by decide) rfl ?_
    refine zi_goto (tgt := 4) d_Mo_ones_21 rfl ?_
    refine zi_lo [(0, .int x0), (1, .int (x1 + ((x0 >>> (x2 &&& (31 : Int32))) &&& (1 : Int32)))), (2, .int (x2 + 1))] [2, 1, 0] rfl ?_
    exact hr4 x0 (x1 + ((x0 >>> (x2 &&& (31 : Int32))) &&& (1 : Int32))) (x2 + 1) M h
theorem K_Mo_ones_b4 (n : Nat) (E : zE) (S : zS) (x0 : Int32) (x1 : Int32) (x2 : Int32) (M : zH) (r : Int32) (M' : zH)  (h : F_Mo_ones_b4 n E S (x0, x1, x2, M) = some (r, M')) : zG E Y_Mo_ones (some (.int r), S, M') 4 [(0, .int x0), (1, .int x1), (2, .int x2)] [] S M 0 0 := by
  have key : ∀ (k : Nat) (x0 : Int32) (x1 : Int32) (x2 : Int32) (M : zH), zfix (fun r4 s => F_Mo_ones_L4 n E S r4 s.1 s.2.1 s.2.2.1 s.2.2.2) k (x0, x1, x2, M) = some (r, M') → zG E Y_Mo_ones (some (.int r), S, M') 4 [(0, .int x0), (1, .int x1), (2, .int x2)] [] S M 0 0 := by
    intro k
    induction k with
    | zero => intro x0 x1 x2 M h; cases h
    | succ k ih => intro x0 x1 x2 M h; exact K_Mo_ones_L4 n E S _ x0 x1 x2 M r M'  (fun x0 x1 x2 M h => ih x0 x1 x2 M h) h
  exact key n x0 x1 x2 M h
theorem K_Mo_ones (n : Nat) (E : zE) (S : zS) (x0 : Int32) (M : zH) (r : Int32) (M' : zH)  (h : F_Mo_ones n E S x0 M = some (r, M')) : zG E Y_Mo_ones (some (.int r), S, M') 0 [(0, .int x0)] [] S M 0 0 := by
  unfold F_Mo_ones at h
  refine zi_iconst 0 d_Mo_ones_0 rfl ?_
  refine zi_istore_n [(1, .int 0), (0, .int x0)] d_Mo_ones_1 (by decide) rfl ?_
  refine zi_iconst 0 d_Mo_ones_2 rfl ?_
  refine zi_istore_n [(2, .int 0), (1, .int 0), (0, .int x0)] d_Mo_ones_3 (by decide) rfl ?_
  refine zi_lo [(0, .int x0), (1, .int 0), (2, .int 0)] [2, 1, 0] rfl ?_
  exact K_Mo_ones_b4 n E S x0 0 0 M r M'  h
theorem C_Mo_ones (n : Nat) (E : zE) (S : zS) (x0 : Int32) (M : zH) (r : Int32) (M' : zH) (h : F_Mo_ones n E S x0 M = some (r, M')) : zC E Y_Mo_ones [.int x0] S M (some (.int r), S, M') :=
  zC.of (Or.inl (show plainName "NightColanderModel" = true by decide)) (Nat.le_of_ble_eq_true rfl) (trivial) (K_Mo_ones n E S x0 M r M' h)
theorem d_Mo_cleared_0 : decode (yB Y_Mo_cleared) 0 = .ok (.aload_n 0, 1) := by decide +kernel
theorem d_Mo_cleared_1 : decode (yB Y_Mo_cleared) 1 = .ok (.iconst 0, 1) := by decide +kernel
theorem d_Mo_cleared_2 : decode (yB Y_Mo_cleared) 2 = .ok (.putfield 156, 3) := by decide +kernel
theorem d_Mo_cleared_5 : decode (yB Y_Mo_cleared) 5 = .ok (.iload_n 1, 1) := by decide +kernel
theorem d_Mo_cleared_6 : decode (yB Y_Mo_cleared) 6 = .ok (.invokestatic 194, 3) := by decide +kernel
theorem d_Mo_cleared_9 : decode (yB Y_Mo_cleared) 9 = .ok (.ifCond .eq 25, 3) := by decide +kernel
theorem d_Mo_cleared_12 : decode (yB Y_Mo_cleared) 12 = .ok (.iload_n 2, 1) := by decide +kernel
theorem d_Mo_cleared_13 : decode (yB Y_Mo_cleared) 13 = .ok (.i2l, 1) := by decide +kernel
theorem d_Mo_cleared_14 : decode (yB Y_Mo_cleared) 14 = .ok (.lconst 0, 1) := by decide +kernel
theorem d_Mo_cleared_15 : decode (yB Y_Mo_cleared) 15 = .ok (.ldc2_w 230, 3) := by decide +kernel
theorem d_Mo_cleared_18 : decode (yB Y_Mo_cleared) 18 = .ok (.invokestatic 176, 3) := by decide +kernel
theorem d_Mo_cleared_21 : decode (yB Y_Mo_cleared) 21 = .ok (.ifCond .eq 13, 3) := by decide +kernel
theorem d_Mo_cleared_24 : decode (yB Y_Mo_cleared) 24 = .ok (.iload_n 3, 1) := by decide +kernel
theorem d_Mo_cleared_25 : decode (yB Y_Mo_cleared) 25 = .ok (.i2l, 1) := by decide +kernel
theorem d_Mo_cleared_26 : decode (yB Y_Mo_cleared) 26 = .ok (.lconst 0, 1) := by decide +kernel
theorem d_Mo_cleared_27 : decode (yB Y_Mo_cleared) 27 = .ok (.lconst 1, 1) := by decide +kernel
theorem d_Mo_cleared_28 : decode (yB Y_Mo_cleared) 28 = .ok (.invokestatic 176, 3) := by decide +kernel
theorem d_Mo_cleared_31 : decode (yB Y_Mo_cleared) 31 = .ok (.ifCond .ne 5, 3) := by decide +kernel
theorem d_Mo_cleared_34 : decode (yB Y_Mo_cleared) 34 = .ok (.iconst (-1), 1) := by decide +kernel
theorem d_Mo_cleared_35 : decode (yB Y_Mo_cleared) 35 = .ok (.ireturn, 1) := by decide +kernel
theorem d_Mo_cleared_36 : decode (yB Y_Mo_cleared) 36 = .ok (.ldc_w 496, 3) := by decide +kernel
theorem d_Mo_cleared_39 : decode (yB Y_Mo_cleared) 39 = .ok (.istore 4, 2) := by decide +kernel
theorem d_Mo_cleared_41 : decode (yB Y_Mo_cleared) 41 = .ok (.iconst (-1), 1) := by decide +kernel
theorem d_Mo_cleared_42 : decode (yB Y_Mo_cleared) 42 = .ok (.istore 5, 2) := by decide +kernel
theorem d_Mo_cleared_44 : decode (yB Y_Mo_cleared) 44 = .ok (.iconst 0, 1) := by decide +kernel
theorem d_Mo_cleared_45 : decode (yB Y_Mo_cleared) 45 = .ok (.istore 6, 2) := by decide +kernel
theorem d_Mo_cleared_47 : decode (yB Y_Mo_cleared) 47 = .ok (.iload 6, 2) := by decide +kernel
theorem d_Mo_cleared_49 : decode (yB Y_Mo_cleared) 49 = .ok (.bipush 16, 2) := by decide +kernel
theorem d_Mo_cleared_51 : decode (yB Y_Mo_cleared) 51 = .ok (.if_icmp .ge 185, 3) := by decide +kernel
theorem d_Mo_cleared_54 : decode (yB Y_Mo_cleared) 54 = .ok (.iconst 1, 1) := by decide +kernel
theorem d_Mo_cleared_55 : decode (yB Y_Mo_cleared) 55 = .ok (.istore 7, 2) := by decide +kernel
theorem d_Mo_cleared_57 : decode (yB Y_Mo_cleared) 57 = .ok (.iconst 0, 1) := by decide +kernel
theorem d_Mo_cleared_58 : decode (yB Y_Mo_cleared) 58 = .ok (.istore 8, 2) := by decide +kernel
theorem d_Mo_cleared_60 : decode (yB Y_Mo_cleared) 60 = .ok (.iconst 0, 1) := by decide +kernel
theorem d_Mo_cleared_61 : decode (yB Y_Mo_cleared) 61 = .ok (.istore 9, 2) := by decide +kernel
theorem d_Mo_cleared_63 : decode (yB Y_Mo_cleared) 63 = .ok (.iload 9, 2) := by decide +kernel
theorem d_Mo_cleared_65 : decode (yB Y_Mo_cleared) 65 = .ok (.iconst 4, 1) := by decide +kernel
theorem d_Mo_cleared_66 : decode (yB Y_Mo_cleared) 66 = .ok (.if_icmp .ge 105, 3) := by decide +kernel
theorem d_Mo_cleared_69 : decode (yB Y_Mo_cleared) 69 = .ok (.aload_n 0, 1) := by decide +kernel
theorem d_Mo_cleared_70 : decode (yB Y_Mo_cleared) 70 = .ok (.iload 9, 2) := by decide +kernel
theorem d_Mo_cleared_72 : decode (yB Y_Mo_cleared) 72 = .ok (.iload_n 1, 1) := by decide +kernel
theorem d_Mo_cleared_73 : decode (yB Y_Mo_cleared) 73 = .ok (.aload_n 0, 1) := by decide +kernel
theorem d_Mo_cleared_74 : decode (yB Y_Mo_cleared) 74 = .ok (.getfield 13, 3) := by decide +kernel
theorem d_Mo_cleared_77 : decode (yB Y_Mo_cleared) 77 = .ok (.bipush 8, 2) := by decide +kernel
theorem d_Mo_cleared_79 : decode (yB Y_Mo_cleared) 79 = .ok (.iload 9, 2) := by decide +kernel
theorem d_Mo_cleared_81 : decode (yB Y_Mo_cleared) 81 = .ok (.iadd, 1) := by decide +kernel
theorem d_Mo_cleared_82 : decode (yB Y_Mo_cleared) 82 = .ok (.iaload, 1) := by decide +kernel
theorem d_Mo_cleared_83 : decode (yB Y_Mo_cleared) 83 = .ok (.invokevirtual 442, 3) := by decide +kernel
theorem d_Mo_cleared_86 : decode (yB Y_Mo_cleared) 86 = .ok (.istore 10, 2) := by decide +kernel
theorem d_Mo_cleared_88 : decode (yB Y_Mo_cleared) 88 = .ok (.aload_n 0, 1) := by decide +kernel
theorem d_Mo_cleared_89 : decode (yB Y_Mo_cleared) 89 = .ok (.getfield 13, 3) := by decide +kernel
theorem d_Mo_cleared_92 : decode (yB Y_Mo_cleared) 92 = .ok (.bipush 44, 2) := by decide +kernel
theorem d_Mo_cleared_94 : decode (yB Y_Mo_cleared) 94 = .ok (.iload 9, 2) := by decide +kernel
theorem d_Mo_cleared_96 : decode (yB Y_Mo_cleared) 96 = .ok (.iadd, 1) := by decide +kernel
theorem d_Mo_cleared_97 : decode (yB Y_Mo_cleared) 97 = .ok (.iaload, 1) := by decide +kernel
theorem d_Mo_cleared_98 : decode (yB Y_Mo_cleared) 98 = .ok (.iload 10, 2) := by decide +kernel
theorem d_Mo_cleared_100 : decode (yB Y_Mo_cleared) 100 = .ok (.invokestatic 197, 3) := by decide +kernel
theorem d_Mo_cleared_103 : decode (yB Y_Mo_cleared) 103 = .ok (.istore 11, 2) := by decide +kernel
theorem d_Mo_cleared_105 : decode (yB Y_Mo_cleared) 105 = .ok (.iload 7, 2) := by decide +kernel
theorem d_Mo_cleared_107 : decode (yB Y_Mo_cleared) 107 = .ok (.ifCond .eq 22, 3) := by decide +kernel
theorem d_Mo_cleared_110 : decode (yB Y_Mo_cleared) 110 = .ok (.iload 11, 2) := by decide +kernel
theorem d_Mo_cleared_112 : decode (yB Y_Mo_cleared) 112 = .ok (.ifCond .ne 13, 3) := by decide +kernel
theorem d_Mo_cleared_115 : decode (yB Y_Mo_cleared) 115 = .ok (.iload 6, 2) := by decide +kernel
theorem d_Mo_cleared_117 : decode (yB Y_Mo_cleared) 117 = .ok (.iload 9, 2) := by decide +kernel
theorem d_Mo_cleared_119 : decode (yB Y_Mo_cleared) 119 = .ok (.invokestatic 197, 3) := by decide +kernel
theorem d_Mo_cleared_122 : decode (yB Y_Mo_cleared) 122 = .ok (.ifCond .ne 7, 3) := by decide +kernel
theorem d_Mo_cleared_125 : decode (yB Y_Mo_cleared) 125 = .ok (.iconst 1, 1) := by decide +kernel
theorem d_Mo_cleared_126 : decode (yB Y_Mo_cleared) 126 = .ok (.goto 4, 3) := by decide +kernel
theorem d_Mo_cleared_129 : decode (yB Y_Mo_cleared) 129 = .ok (.iconst 0, 1) := by decide +kernel
theorem d_Mo_cleared_130 : decode (yB Y_Mo_cleared) 130 = .ok (.istore 7, 2) := by decide +kernel
theorem d_Mo_cleared_132 : decode (yB Y_Mo_cleared) 132 = .ok (.iload 8, 2) := by decide +kernel
theorem d_Mo_cleared_134 : decode (yB Y_Mo_cleared) 134 = .ok (.iload 11, 2) := by decide +kernel
theorem d_Mo_cleared_136 : decode (yB Y_Mo_cleared) 136 = .ok (.ifCond .eq 13, 3) := by decide +kernel
theorem d_Mo_cleared_139 : decode (yB Y_Mo_cleared) 139 = .ok (.iload 6, 2) := by decide +kernel
theorem d_Mo_cleared_141 : decode (yB Y_Mo_cleared) 141 = .ok (.iload 9, 2) := by decide +kernel
theorem d_Mo_cleared_143 : decode (yB Y_Mo_cleared) 143 = .ok (.invokestatic 197, 3) := by decide +kernel
theorem d_Mo_cleared_146 : decode (yB Y_Mo_cleared) 146 = .ok (.ifCond .eq 15, 3) := by decide +kernel
theorem d_Mo_cleared_149 : decode (yB Y_Mo_cleared) 149 = .ok (.aload_n 0, 1) := by decide +kernel
theorem d_Mo_cleared_150 : decode (yB Y_Mo_cleared) 150 = .ok (.iload 9, 2) := by decide +kernel
theorem d_Mo_cleared_152 : decode (yB Y_Mo_cleared) 152 = .ok (.iload 10, 2) := by decide +kernel
theorem d_Mo_cleared_154 : decode (yB Y_Mo_cleared) 154 = .ok (.iload_n 1, 1) := by decide +kernel
theorem d_Mo_cleared_155 : decode (yB Y_Mo_cleared) 155 = .ok (.invokevirtual 201, 3) := by decide +kernel
theorem d_Mo_cleared_158 : decode (yB Y_Mo_cleared) 158 = .ok (.goto 4, 3) := by decide +kernel
theorem d_Mo_cleared_161 : decode (yB Y_Mo_cleared) 161 = .ok (.iconst 0, 1) := by decide +kernel
theorem d_Mo_cleared_162 : decode (yB Y_Mo_cleared) 162 = .ok (.iadd, 1) := by decide +kernel
theorem d_Mo_cleared_163 : decode (yB Y_Mo_cleared) 163 = .ok (.istore 8, 2) := by decide +kernel
theorem d_Mo_cleared_165 : decode (yB Y_Mo_cleared) 165 = .ok (.iinc 9 1, 3) := by decide +kernel
theorem d_Mo_cleared_168 : decode (yB Y_Mo_cleared) 168 = .ok (.goto (-105), 3) := by decide +kernel
theorem d_Mo_cleared_171 : decode (yB Y_Mo_cleared) 171 = .ok (.iload 7, 2) := by decide +kernel
theorem d_Mo_cleared_173 : decode (yB Y_Mo_cleared) 173 = .ok (.ifCond .eq 23, 3) := by decide +kernel
theorem d_Mo_cleared_176 : decode (yB Y_Mo_cleared) 176 = .ok (.iload 8, 2) := by decide +kernel
theorem d_Mo_cleared_178 : decode (yB Y_Mo_cleared) 178 = .ok (.iload_n 2, 1) := by decide +kernel
theorem d_Mo_cleared_179 : decode (yB Y_Mo_cleared) 179 = .ok (.if_icmp .lt 17, 3) := by decide +kernel
theorem d_Mo_cleared_182 : decode (yB Y_Mo_cleared) 182 = .ok (.iload 6, 2) := by decide +kernel
theorem d_Mo_cleared_184 : decode (yB Y_Mo_cleared) 184 = .ok (.invokestatic 187, 3) := by decide +kernel
theorem d_Mo_cleared_187 : decode (yB Y_Mo_cleared) 187 = .ok (.iload 4, 2) := by decide +kernel
theorem d_Mo_cleared_189 : decode (yB Y_Mo_cleared) 189 = .ok (.if_icmp .ge 7, 3) := by decide +kernel
theorem d_Mo_cleared_192 : decode (yB Y_Mo_cleared) 192 = .ok (.iconst 1, 1) := by decide +kernel
theorem d_Mo_cleared_193 : decode (yB Y_Mo_cleared) 193 = .ok (.goto 4, 3) := by decide +kernel
theorem d_Mo_cleared_196 : decode (yB Y_Mo_cleared) 196 = .ok (.iconst 0, 1) := by decide +kernel
theorem d_Mo_cleared_197 : decode (yB Y_Mo_cleared) 197 = .ok (.istore 9, 2) := by decide +kernel
theorem d_Mo_cleared_199 : decode (yB Y_Mo_cleared) 199 = .ok (.iload 9, 2) := by decide +kernel
theorem d_Mo_cleared_201 : decode (yB Y_Mo_cleared) 201 = .ok (.ifCond .eq 8, 3) := by decide +kernel
theorem d_Mo_cleared_204 : decode (yB Y_Mo_cleared) 204 = .ok (.iload 6, 2) := by decide +kernel
theorem d_Mo_cleared_206 : decode (yB Y_Mo_cleared) 206 = .ok (.goto 5, 3) := by decide +kernel
theorem d_Mo_cleared_209 : decode (yB Y_Mo_cleared) 209 = .ok (.iload 5, 2) := by decide +kernel
theorem d_Mo_cleared_211 : decode (yB Y_Mo_cleared) 211 = .ok (.istore 5, 2) := by decide +kernel
theorem d_Mo_cleared_213 : decode (yB Y_Mo_cleared) 213 = .ok (.iload 9, 2) := by decide +kernel
theorem d_Mo_cleared_215 : decode (yB Y_Mo_cleared) 215 = .ok (.ifCond .eq 11, 3) := by decide +kernel
theorem d_Mo_cleared_218 : decode (yB Y_Mo_cleared) 218 = .ok (.iload 6, 2) := by decide +kernel
theorem d_Mo_cleared_220 : decode (yB Y_Mo_cleared) 220 = .ok (.invokestatic 187, 3) := by decide +kernel
theorem d_Mo_cleared_223 : decode (yB Y_Mo_cleared) 223 = .ok (.goto 5, 3) := by decide +kernel
theorem d_Mo_cleared_226 : decode (yB Y_Mo_cleared) 226 = .ok (.iload 4, 2) := by decide +kernel
theorem d_Mo_cleared_228 : decode (yB Y_Mo_cleared) 228 = .ok (.istore 4, 2) := by decide +kernel
theorem d_Mo_cleared_230 : decode (yB Y_Mo_cleared) 230 = .ok (.iinc 6 1, 3) := by decide +kernel
theorem d_Mo_cleared_233 : decode (yB Y_Mo_cleared) 233 = .ok (.goto (-186), 3) := by decide +kernel
theorem d_Mo_cleared_236 : decode (yB Y_Mo_cleared) 236 = .ok (.iload 5, 2) := by decide +kernel
theorem d_Mo_cleared_238 : decode (yB Y_Mo_cleared) 238 = .ok (.iconst (-1), 1) := by decide +kernel
theorem d_Mo_cleared_239 : decode (yB Y_Mo_cleared) 239 = .ok (.if_icmp .eq 8, 3) := by decide +kernel
theorem d_Mo_cleared_242 : decode (yB Y_Mo_cleared) 242 = .ok (.iload_n 3, 1) := by decide +kernel
theorem d_Mo_cleared_243 : decode (yB Y_Mo_cleared) 243 = .ok (.iconst 1, 1) := by decide +kernel
theorem d_Mo_cleared_244 : decode (yB Y_Mo_cleared) 244 = .ok (.if_icmp .ne 8, 3) := by decide +kernel
theorem d_Mo_cleared_247 : decode (yB Y_Mo_cleared) 247 = .ok (.iload 5, 2) := by decide +kernel
theorem d_Mo_cleared_249 : decode (yB Y_Mo_cleared) 249 = .ok (.goto 5, 3) := by decide +kernel
theorem d_Mo_cleared_252 : decode (yB Y_Mo_cleared) 252 = .ok (.iload 4, 2) := by decide +kernel
theorem d_Mo_cleared_254 : decode (yB Y_Mo_cleared) 254 = .ok (.ireturn, 1) := by decide +kernel
def F_Mo_cleared_b162 (n : Nat) (E : zE) (S : zS) (r47 : Nat × Int32 × Int32 × Int32 × Int32 × Int32 × Int32 × zH → Option (Int32 × zH)) (r63 : Nat × Int32 × Int32 × Int32 × Int32 × Int32 × Int32 × Int32 × Int32 × Int32 × zH → Option (Int32 × zH)) (a0 : Nat) (x1 : Int32) (x2 : Int32) (x3 : Int32) (x4 : Int32) (x5 : Int32) (x6 : Int32) (x7 : Int32) (x9 : Int32) (s0 : Int32) (s1 : Int32) (M : zH) : Option (Int32 × zH) :=
  r63 (a0, x1, x2, x3, x4, x5, x6, x7, s1 + s0, x9 + 1, M)
def F_Mo_cleared_b149 (n : Nat) (E : zE) (S : zS) (r47 : Nat × Int32 × Int32 × Int32 × Int32 × Int32 × Int32 × zH → Option (Int32 × zH)) (r63 : Nat × Int32 × Int32 × Int32 × Int32 × Int32 × Int32 × Int32 × Int32 × Int32 × zH → Option (Int32 × zH)) (a0 : Nat) (x1 : Int32) (x2 : Int32) (x3 : Int32) (x4 : Int32) (x5 : Int32) (x6 : Int32) (x7 : Int32) (x9 : Int32) (x10 : Int32) (s0 : Int32) (M : zH) : Option (Int32 × zH) :=
  (zck S a0 11).bind fun u_1 =>
  (F_Mo_runsOf n E S a0 x9 x10 x1 M).bind fun q_2 =>
  F_Mo_cleared_b162 n E S r47 r63 a0 x1 x2 x3 x4 x5 x6 x7 x9 q_2.1 s0 q_2.2
def F_Mo_cleared_b130 (n : Nat) (E : zE) (S : zS) (r47 : Nat × Int32 × Int32 × Int32 × Int32 × Int32 × Int32 × zH → Option (Int32 × zH)) (r63 : Nat × Int32 × Int32 × Int32 × Int32 × Int32 × Int32 × Int32 × Int32 × Int32 × zH → Option (Int32 × zH)) (a0 : Nat) (x1 : Int32) (x2 : Int32) (x3 : Int32) (x4 : Int32) (x5 : Int32) (x6 : Int32) (x8 : Int32) (x9 : Int32) (x10 : Int32) (x11 : Int32) (s0 : Int32) (M : zH) : Option (Int32 × zH) :=
  if x11 = 0 then
    F_Mo_cleared_b149 n E S r47 r63 a0 x1 x2 x3 x4 x5 x6 s0 x9 x10 x8 M
  else
    (F_Mo_is n E S x6 x9 M).bind fun q_4 =>
    if q_4.1 = true then
      F_Mo_cleared_b149 n E S r47 r63 a0 x1 x2 x3 x4 x5 x6 s0 x9 x10 x8 q_4.2
    else
      F_Mo_cleared_b162 n E S r47 r63 a0 x1 x2 x3 x4 x5 x6 s0 x9 0 x8 q_4.2
def F_Mo_cleared_b125 (n : Nat) (E : zE) (S : zS) (r47 : Nat × Int32 × Int32 × Int32 × Int32 × Int32 × Int32 × zH → Option (Int32 × zH)) (r63 : Nat × Int32 × Int32 × Int32 × Int32 × Int32 × Int32 × Int32 × Int32 × Int32 × zH → Option (Int32 × zH)) (a0 : Nat) (x1 : Int32) (x2 : Int32) (x3 : Int32) (x4 : Int32) (x5 : Int32) (x6 : Int32) (x8 : Int32) (x9 : Int32) (x10 : Int32) (x11 : Int32) (M : zH) : Option (Int32 × zH) :=
  F_Mo_cleared_b130 n E S r47 r63 a0 x1 x2 x3 x4 x5 x6 x8 x9 x10 x11 1 M
def F_Mo_cleared_b129 (n : Nat) (E : zE) (S : zS) (r47 : Nat × Int32 × Int32 × Int32 × Int32 × Int32 × Int32 × zH → Option (Int32 × zH)) (r63 : Nat × Int32 × Int32 × Int32 × Int32 × Int32 × Int32 × Int32 × Int32 × Int32 × zH → Option (Int32 × zH)) (a0 : Nat) (x1 : Int32) (x2 : Int32) (x3 : Int32) (x4 : Int32) (x5 : Int32) (x6 : Int32) (x8 : Int32) (x9 : Int32) (x10 : Int32) (x11 : Int32) (M : zH) : Option (Int32 × zH) :=
  F_Mo_cleared_b130 n E S r47 r63 a0 x1 x2 x3 x4 x5 x6 x8 x9 x10 x11 0 M
def F_Mo_cleared_b228 (n : Nat) (E : zE) (S : zS) (r47 : Nat × Int32 × Int32 × Int32 × Int32 × Int32 × Int32 × zH → Option (Int32 × zH)) (a0 : Nat) (x1 : Int32) (x2 : Int32) (x3 : Int32) (x5 : Int32) (x6 : Int32) (s0 : Int32) (M : zH) : Option (Int32 × zH) :=
  r47 (a0, x1, x2, x3, s0, x5, x6 + 1, M)
def F_Mo_cleared_b211 (n : Nat) (E : zE) (S : zS) (r47 : Nat × Int32 × Int32 × Int32 × Int32 × Int32 × Int32 × zH → Option (Int32 × zH)) (a0 : Nat) (x1 : Int32) (x2 : Int32) (x3 : Int32) (x4 : Int32) (x6 : Int32) (x9 : Int32) (s0 : Int32) (M : zH) : Option (Int32 × zH) :=
  if x9 = 0 then
    F_Mo_cleared_b228 n E S r47 a0 x1 x2 x3 s0 x6 x4 M
  else
    (F_Mo_ones n E S x6 M).bind fun q_7 =>
    F_Mo_cleared_b228 n E S r47 a0 x1 x2 x3 s0 x6 q_7.1 q_7.2
def F_Mo_cleared_b197 (n : Nat) (E : zE) (S : zS) (r47 : Nat × Int32 × Int32 × Int32 × Int32 × Int32 × Int32 × zH → Option (Int32 × zH)) (a0 : Nat) (x1 : Int32) (x2 : Int32) (x3 : Int32) (x4 : Int32) (x5 : Int32) (x6 : Int32) (s0 : Int32) (M : zH) : Option (Int32 × zH) :=
  if s0 = 0 then
    F_Mo_cleared_b211 n E S r47 a0 x1 x2 x3 x4 x6 s0 x5 M
  else
    F_Mo_cleared_b211 n E S r47 a0 x1 x2 x3 x4 x6 s0 x6 M
def F_Mo_cleared_b196 (n : Nat) (E : zE) (S : zS) (r47 : Nat × Int32 × Int32 × Int32 × Int32 × Int32 × Int32 × zH → Option (Int32 × zH)) (a0 : Nat) (x1 : Int32) (x2 : Int32) (x3 : Int32) (x4 : Int32) (x5 : Int32) (x6 : Int32) (M : zH) : Option (Int32 × zH) :=
  F_Mo_cleared_b197 n E S r47 a0 x1 x2 x3 x4 x5 x6 0 M
def F_Mo_cleared_L63 (n : Nat) (E : zE) (S : zS) (r47 : Nat × Int32 × Int32 × Int32 × Int32 × Int32 × Int32 × zH → Option (Int32 × zH)) (r63 : Nat × Int32 × Int32 × Int32 × Int32 × Int32 × Int32 × Int32 × Int32 × Int32 × zH → Option (Int32 × zH)) (a0 : Nat) (x1 : Int32) (x2 : Int32) (x3 : Int32) (x4 : Int32) (x5 : Int32) (x6 : Int32) (x7 : Int32) (x8 : Int32) (x9 : Int32) (M : zH) : Option (Int32 × zH) :=
  if 4 ≤ x9 then
    if x7 = 0 then
      F_Mo_cleared_b196 n E S r47 a0 x1 x2 x3 x4 x5 x6 M
    else
      if x8 < x2 then
        F_Mo_cleared_b196 n E S r47 a0 x1 x2 x3 x4 x5 x6 M
      else
        (F_Mo_ones n E S x6 M).bind fun q_12 =>
        if x4 ≤ q_12.1 then
          F_Mo_cleared_b196 n E S r47 a0 x1 x2 x3 x4 x5 x6 q_12.2
        else
          F_Mo_cleared_b197 n E S r47 a0 x1 x2 x3 x4 x5 x6 1 q_12.2
  else
    (zgR S a0 11 3).bind fun b_14 =>
    (zldI S M b_14 (8 + x9)).bind fun v_15 =>
    (F_Mo_holeAbove n E S a0 x9 x1 v_15 M).bind fun q_16 =>
    (zldI S q_16.2 b_14 (44 + x9)).bind fun v_17 =>
    (F_Mo_is n E S v_17 q_16.1 q_16.2).bind fun q_18 =>
    if x7 = 0 then
      F_Mo_cleared_b129 n E S r47 r63 a0 x1 x2 x3 x4 x5 x6 x8 x9 q_16.1 (bI q_18.1) q_18.2
    else
      if (bI q_18.1) = 0 then
        (F_Mo_is n E S x6 x9 q_18.2).bind fun q_21 =>
        if q_21.1 = true then
          F_Mo_cleared_b129 n E S r47 r63 a0 x1 x2 x3 x4 x5 x6 x8 x9 q_16.1 (bI q_18.1) q_21.2
        else
          F_Mo_cleared_b125 n E S r47 r63 a0 x1 x2 x3 x4 x5 x6 x8 x9 q_16.1 (bI q_18.1) q_21.2
      else
        F_Mo_cleared_b125 n E S r47 r63 a0 x1 x2 x3 x4 x5 x6 x8 x9 q_16.1 (bI q_18.1) q_18.2
def F_Mo_cleared_b63 (n : Nat) (E : zE) (S : zS) (r47 : Nat × Int32 × Int32 × Int32 × Int32 × Int32 × Int32 × zH → Option (Int32 × zH)) : Nat × Int32 × Int32 × Int32 × Int32 × Int32 × Int32 × Int32 × Int32 × Int32 × zH → Option (Int32 × zH) := zfix (fun r63 s => F_Mo_cleared_L63 n E S r47 r63 s.1 s.2.1 s.2.2.1 s.2.2.2.1 s.2.2.2.2.1 s.2.2.2.2.2.1 s.2.2.2.2.2.2.1 s.2.2.2.2.2.2.2.1 s.2.2.2.2.2.2.2.2.1 s.2.2.2.2.2.2.2.2.2.1 s.2.2.2.2.2.2.2.2.2.2) n
def F_Mo_cleared_b247 (n : Nat) (E : zE) (S : zS) (x5 : Int32) (M : zH) : Option (Int32 × zH) :=
  some (x5, M)
def F_Mo_cleared_L47 (n : Nat) (E : zE) (S : zS) (r47 : Nat × Int32 × Int32 × Int32 × Int32 × Int32 × Int32 × zH → Option (Int32 × zH)) (a0 : Nat) (x1 : Int32) (x2 : Int32) (x3 : Int32) (x4 : Int32) (x5 : Int32) (x6 : Int32) (M : zH) : Option (Int32 × zH) :=
  if 16 ≤ x6 then
    if x5 = (-1) then
      F_Mo_cleared_b247 n E S x5 M
    else
      if x3 = 1 then
        F_Mo_cleared_b247 n E S x5 M
      else
        some (x4, M)
  else
    F_Mo_cleared_b63 n E S r47 (a0, x1, x2, x3, x4, x5, x6, 1, 0, 0, M)
def F_Mo_cleared_b47 (n : Nat) (E : zE) (S : zS) : Nat × Int32 × Int32 × Int32 × Int32 × Int32 × Int32 × zH → Option (Int32 × zH) := zfix (fun r47 s => F_Mo_cleared_L47 n E S r47 s.1 s.2.1 s.2.2.1 s.2.2.2.1 s.2.2.2.2.1 s.2.2.2.2.2.1 s.2.2.2.2.2.2.1 s.2.2.2.2.2.2.2) n
def F_Mo_cleared (n : Nat) (E : zE) (S : zS) (a0 : Nat) (x1 : Int32) (x2 : Int32) (x3 : Int32) (M : zH) : Option (Int32 × zH) :=
  (zpI S M a0 11 0 0).bind fun m_26 =>
  (F_Mo_isField n E S x1 m_26).bind fun q_27 =>
  if q_27.1 = true then
    (F_Mo_in n E S x2.toInt64 0 400 q_27.2).bind fun q_29 =>
    if q_29.1 = true then
      (F_Mo_in n E S x3.toInt64 0 1 q_29.2).bind fun q_31 =>
      if q_31.1 = true then
        F_Mo_cleared_b47 n E S (a0, x1, x2, x3, 100000000, (-1), 0, q_31.2)
      else
        some ((-1), q_31.2)
    else
      some ((-1), q_29.2)
  else
    some ((-1), q_27.2)
theorem K_Mo_cleared_b162 (n : Nat) (E : zE) (S : zS) (r47 : Nat × Int32 × Int32 × Int32 × Int32 × Int32 × Int32 × zH → Option (Int32 × zH)) (r63 : Nat × Int32 × Int32 × Int32 × Int32 × Int32 × Int32 × Int32 × Int32 × Int32 × zH → Option (Int32 × zH)) (a0 : Nat) (x1 : Int32) (x2 : Int32) (x3 : Int32) (x4 : Int32) (x5 : Int32) (x6 : Int32) (x7 : Int32) (x9 : Int32) (s0 : Int32) (s1 : Int32) (M : zH) (r : Int32) (M' : zH) (hr47 : ∀ (a0 : Nat) (x1 : Int32) (x2 : Int32) (x3 : Int32) (x4 : Int32) (x5 : Int32) (x6 : Int32) (M : zH), r47 (a0, x1, x2, x3, x4, x5, x6, M) = some (r, M') → zG E Y_Mo_cleared (some (.int r), S, M') 47 [(0, .ref a0), (1, .int x1), (2, .int x2), (3, .int x3), (4, .int x4), (5, .int x5), (6, .int x6)] [] S M 0 0) (hr63 : ∀ (a0 : Nat) (x1 : Int32) (x2 : Int32) (x3 : Int32) (x4 : Int32) (x5 : Int32) (x6 : Int32) (x7 : Int32) (x8 : Int32) (x9 : Int32) (M : zH), r63 (a0, x1, x2, x3, x4, x5, x6, x7, x8, x9, M) = some (r, M') → zG E Y_Mo_cleared (some (.int r), S, M') 63 [(0, .ref a0), (1, .int x1), (2, .int x2), (3, .int x3), (4, .int x4), (5, .int x5), (6, .int x6), (7, .int x7), (8, .int x8), (9, .int x9)] [] S M 0 0) (h : F_Mo_cleared_b162 n E S r47 r63 a0 x1 x2 x3 x4 x5 x6 x7 x9 s0 s1 M = some (r, M')) : zG E Y_Mo_cleared (some (.int r), S, M') 162 [(0, .ref a0), (1, .int x1), (2, .int x2), (3, .int x3), (4, .int x4), (5, .int x5), (6, .int x6), (7, .int x7), (9, .int x9)] [.int s0, .int s1] S M 0 0 := by
  unfold F_Mo_cleared_b162 at h
  refine zi_iadd d_Mo_cleared_162 ?_
  refine zi_istore [(8, .int (s1 + s0)), (0, .ref a0), (1, .int x1), (2, .int x2), (3, .int x3), (4, .int x4), (5, .int x5), (6, .int x6), (7, .int x7), (9, .int x9)] d_Mo_cleared_163 (by decide) rfl ?_
  refine zi_iinc 9 (x9 + 1) [(9, .int (x9 + 1)), (8, .int (s1 + s0)), (0, .ref a0), (1, .int x1), (2, .int x2), (3, .int x3), (4, .int x4), (5, .int x5), (6, .int x6), (7, .int x7)] d_Mo_cleared_165 rfl rfl (by decide) rfl ?_
  refine zi_goto (tgt := 63) d_Mo_cleared_168 rfl ?_
  refine zi_lo [(0, .ref a0), (1, .int x1), (2, .int x2), (3, .int x3), (4, .int x4), (5, .int x5), (6, .int x6), (7, .int x7), (8, .int (s1 + s0)), (9, .int (x9 + 1))] [2, 3, 4, 5, 6, 7, 8, 9, 1, 0] rfl ?_
  exact hr63 a0 x1 x2 x3 x4 x5 x6 x7 (s1 + s0) (x9 + 1) M h
theorem K_Mo_cleared_b149 (n : Nat) (E : zE) (S : zS) (r47 : Nat × Int32 × Int32 × Int32 × Int32 × Int32 × Int32 × zH → Option (Int32 × zH)) (r63 : Nat × Int32 × Int32 × Int32 × Int32 × Int32 × Int32 × Int32 × Int32 × Int32 × zH → Option (Int32 × zH)) (a0 : Nat) (x1 : Int32) (x2 : Int32) (x3 : Int32) (x4 : Int32) (x5 : Int32) (x6 : Int32) (x7 : Int32) (x9 : Int32) (x10 : Int32) (s0 : Int32) (M : zH) (r : Int32) (M' : zH) (hr47 : ∀ (a0 : Nat) (x1 : Int32) (x2 : Int32) (x3 : Int32) (x4 : Int32) (x5 : Int32) (x6 : Int32) (M : zH), r47 (a0, x1, x2, x3, x4, x5, x6, M) = some (r, M') → zG E Y_Mo_cleared (some (.int r), S, M') 47 [(0, .ref a0), (1, .int x1), (2, .int x2), (3, .int x3), (4, .int x4), (5, .int x5), (6, .int x6)] [] S M 0 0) (hr63 : ∀ (a0 : Nat) (x1 : Int32) (x2 : Int32) (x3 : Int32) (x4 : Int32) (x5 : Int32) (x6 : Int32) (x7 : Int32) (x8 : Int32) (x9 : Int32) (M : zH), r63 (a0, x1, x2, x3, x4, x5, x6, x7, x8, x9, M) = some (r, M') → zG E Y_Mo_cleared (some (.int r), S, M') 63 [(0, .ref a0), (1, .int x1), (2, .int x2), (3, .int x3), (4, .int x4), (5, .int x5), (6, .int x6), (7, .int x7), (8, .int x8), (9, .int x9)] [] S M 0 0) (h : F_Mo_cleared_b149 n E S r47 r63 a0 x1 x2 x3 x4 x5 x6 x7 x9 x10 s0 M = some (r, M')) : zG E Y_Mo_cleared (some (.int r), S, M') 149 [(0, .ref a0), (1, .int x1), (2, .int x2), (3, .int x3), (4, .int x4), (5, .int x5), (6, .int x6), (7, .int x7), (9, .int x9), (10, .int x10)] [.int s0] S M 0 0 := by
  unfold F_Mo_cleared_b149 at h
  refine zi_aload_n 0 d_Mo_cleared_149 rfl ?_
  refine zi_iload 8 d_Mo_cleared_150 rfl ?_
  refine zi_iload 9 d_Mo_cleared_152 rfl ?_
  refine zi_iload_n 1 d_Mo_cleared_154 rfl ?_
  obtain ⟨u_1, eu_1, h⟩ := zbind h
  obtain ⟨q_2, eq_2, h⟩ := zbind h
  refine zo_virt (k' := 0) (n' := 0) 158 [.int x9, .int x10, .int x1] [.int s0] [.int q_2.1, .int s0] zkd_11 (zck_s eu_1) (C_Mo_runsOf n E S a0 x9 x10 x1 M q_2.1 q_2.2 eq_2) d_Mo_cleared_155 tw_1448 tw_1445 tw_1447 ts_39 tw_13 dd_Mo_runsOf ⟨Nat.le_of_ble_eq_true rfl, Nat.le_of_ble_eq_true rfl, Nat.le_of_ble_eq_true rfl, Nat.le_of_ble_eq_true rfl⟩ (Nat.le_of_ble_eq_true rfl) rfl rfl rfl rfl ?_
  refine zi_goto (tgt := 162) d_Mo_cleared_158 rfl ?_
  refine zi_lo [(0, .ref a0), (1, .int x1), (2, .int x2), (3, .int x3), (4, .int x4), (5, .int x5), (6, .int x6), (7, .int x7), (9, .int x9)] [0, 1, 2, 3, 4, 5, 6, 7, 8] rfl ?_
  exact K_Mo_cleared_b162 n E S r47 r63 a0 x1 x2 x3 x4 x5 x6 x7 x9 q_2.1 s0 q_2.2 r M' hr47 hr63 h
theorem K_Mo_cleared_b130 (n : Nat) (E : zE) (S : zS) (r47 : Nat × Int32 × Int32 × Int32 × Int32 × Int32 × Int32 × zH → Option (Int32 × zH)) (r63 : Nat × Int32 × Int32 × Int32 × Int32 × Int32 × Int32 × Int32 × Int32 × Int32 × zH → Option (Int32 × zH)) (a0 : Nat) (x1 : Int32) (x2 : Int32) (x3 : Int32) (x4 : Int32) (x5 : Int32) (x6 : Int32) (x8 : Int32) (x9 : Int32) (x10 : Int32) (x11 : Int32) (s0 : Int32) (M : zH) (r : Int32) (M' : zH) (hr47 : ∀ (a0 : Nat) (x1 : Int32) (x2 : Int32) (x3 : Int32) (x4 : Int32) (x5 : Int32) (x6 : Int32) (M : zH), r47 (a0, x1, x2, x3, x4, x5, x6, M) = some (r, M') → zG E Y_Mo_cleared (some (.int r), S, M') 47 [(0, .ref a0), (1, .int x1), (2, .int x2), (3, .int x3), (4, .int x4), (5, .int x5), (6, .int x6)] [] S M 0 0) (hr63 : ∀ (a0 : Nat) (x1 : Int32) (x2 : Int32) (x3 : Int32) (x4 : Int32) (x5 : Int32) (x6 : Int32) (x7 : Int32) (x8 : Int32) (x9 : Int32) (M : zH), r63 (a0, x1, x2, x3, x4, x5, x6, x7, x8, x9, M) = some (r, M') → zG E Y_Mo_cleared (some (.int r), S, M') 63 [(0, .ref a0), (1, .int x1), (2, .int x2), (3, .int x3), (4, .int x4), (5, .int x5), (6, .int x6), (7, .int x7), (8, .int x8), (9, .int x9)] [] S M 0 0) (h : F_Mo_cleared_b130 n E S r47 r63 a0 x1 x2 x3 x4 x5 x6 x8 x9 x10 x11 s0 M = some (r, M')) : zG E Y_Mo_cleared (some (.int r), S, M') 130 [(0, .ref a0), (1, .int x1), (2, .int x2), (3, .int x3), (4, .int x4), (5, .int x5), (6, .int x6), (8, .int x8), (9, .int x9), (10, .int x10), (11, .int x11)] [.int s0] S M 0 0 := by
  unfold F_Mo_cleared_b130 at h
  refine zi_istore [(7, .int s0), (0, .ref a0), (1, .int x1), (2, .int x2), (3, .int x3), (4, .int x4), (5, .int x5), (6, .int x6), (8, .int x8), (9, .int x9), (10, .int x10), (11, .int x11)] d_Mo_cleared_130 (by decide) rfl ?_
  refine zi_iload 8 d_Mo_cleared_132 rfl ?_
  refine zi_iload 11 d_Mo_cleared_134 rfl ?_
  refine zi_if_eq (tgt := 149) d_Mo_cleared_136 rfl (fun c_3 => ?_) (fun c_3 => ?_)
  · rw [if_pos c_3] at h
    refine zi_lo [(0, .ref a0), (1, .int x1), (2, .int x2), (3, .int x3), (4, .int x4), (5, .int x5), (6, .int x6), (7, .int s0), (9, .int x9), (10, .int x10)] [1, 2, 3, 4, 5, 6, 7, 0, 9, 10] rfl ?_
    exact K_Mo_cleared_b149 n E S r47 r63 a0 x1 x2 x3 x4 x5 x6 s0 x9 x10 x8 M r M' hr47 hr63 h
  · rw [if_neg c_3] at h
    refine zi_iload 7 d_Mo_cleared_139 rfl ?_
    refine zi_iload 9 d_Mo_cleared_141 rfl ?_
    obtain ⟨q_4, eq_4, h⟩ := zbind h
    refine zo_stat (k' := 0) (n' := 0) 146 [.int x6, .int x9] [.int x8] [.int (bI q_4.1), .int x8] (C_Mo_is n E S x6 x9 M q_4.1 q_4.2 eq_4) d_Mo_cleared_143 tw_1444 tw_1442 tw_1443 tw_13 dd_Mo_is ⟨Nat.le_of_ble_eq_true rfl, Nat.le_of_ble_eq_true rfl, Nat.le_of_ble_eq_true rfl, Nat.le_of_ble_eq_true rfl⟩ (Nat.le_of_ble_eq_true rfl) rfl rfl rfl rfl ?_
    refine zo_ifeqB d_Mo_cleared_146 rfl 149 rfl (fun c_5 => ?_) (fun c_5 => ?_)
    · rw [if_neg c_5] at h
      refine zi_iconst 0 d_Mo_cleared_161 rfl ?_
      refine zi_lo [(0, .ref a0), (1, .int x1), (2, .int x2), (3, .int x3), (4, .int x4), (5, .int x5), (6, .int x6), (7, .int s0), (9, .int x9)] [1, 2, 3, 4, 5, 6, 7, 0, 9] rfl ?_
      exact K_Mo_cleared_b162 n E S r47 r63 a0 x1 x2 x3 x4 x5 x6 s0 x9 0 x8 q_4.2 r M' hr47 hr63 h
    · rw [if_pos c_5] at h
      refine zi_lo [(0, .ref a0), (1, .int x1), (2, .int x2), (3, .int x3), (4, .int x4), (5, .int x5), (6, .int x6), (7, .int s0), (9, .int x9), (10, .int x10)] [1, 2, 3, 4, 5, 6, 7, 0, 9, 10] rfl ?_
      exact K_Mo_cleared_b149 n E S r47 r63 a0 x1 x2 x3 x4 x5 x6 s0 x9 x10 x8 q_4.2 r M' hr47 hr63 h
theorem K_Mo_cleared_b125 (n : Nat) (E : zE) (S : zS) (r47 : Nat × Int32 × Int32 × Int32 × Int32 × Int32 × Int32 × zH → Option (Int32 × zH)) (r63 : Nat × Int32 × Int32 × Int32 × Int32 × Int32 × Int32 × Int32 × Int32 × Int32 × zH → Option (Int32 × zH)) (a0 : Nat) (x1 : Int32) (x2 : Int32) (x3 : Int32) (x4 : Int32) (x5 : Int32) (x6 : Int32) (x8 : Int32) (x9 : Int32) (x10 : Int32) (x11 : Int32) (M : zH) (r : Int32) (M' : zH) (hr47 : ∀ (a0 : Nat) (x1 : Int32) (x2 : Int32) (x3 : Int32) (x4 : Int32) (x5 : Int32) (x6 : Int32) (M : zH), r47 (a0, x1, x2, x3, x4, x5, x6, M) = some (r, M') → zG E Y_Mo_cleared (some (.int r), S, M') 47 [(0, .ref a0), (1, .int x1), (2, .int x2), (3, .int x3), (4, .int x4), (5, .int x5), (6, .int x6)] [] S M 0 0) (hr63 : ∀ (a0 : Nat) (x1 : Int32) (x2 : Int32) (x3 : Int32) (x4 : Int32) (x5 : Int32) (x6 : Int32) (x7 : Int32) (x8 : Int32) (x9 : Int32) (M : zH), r63 (a0, x1, x2, x3, x4, x5, x6, x7, x8, x9, M) = some (r, M') → zG E Y_Mo_cleared (some (.int r), S, M') 63 [(0, .ref a0), (1, .int x1), (2, .int x2), (3, .int x3), (4, .int x4), (5, .int x5), (6, .int x6), (7, .int x7), (8, .int x8), (9, .int x9)] [] S M 0 0) (h : F_Mo_cleared_b125 n E S r47 r63 a0 x1 x2 x3 x4 x5 x6 x8 x9 x10 x11 M = some (r, M')) : zG E Y_Mo_cleared (some (.int r), S, M') 125 [(0, .ref a0), (1, .int x1), (2, .int x2), (3, .int x3), (4, .int x4), (5, .int x5), (6, .int x6), (8, .int x8), (9, .int x9), (10, .int x10), (11, .int x11)] [] S M 0 0 := by
  unfold F_Mo_cleared_b125 at h
  refine zi_iconst 1 d_Mo_cleared_125 rfl ?_
  refine zi_goto (tgt := 130) d_Mo_cleared_126 rfl ?_
  refine zi_lo [(0, .ref a0), (1, .int x1), (2, .int x2), (3, .int x3), (4, .int x4), (5, .int x5), (6, .int x6), (8, .int x8), (9, .int x9), (10, .int x10), (11, .int x11)] [0, 1, 2, 3, 4, 5, 6, 7, 8, 9, 10] rfl ?_
  exact K_Mo_cleared_b130 n E S r47 r63 a0 x1 x2 x3 x4 x5 x6 x8 x9 x10 x11 1 M r M' hr47 hr63 h
theorem K_Mo_cleared_b129 (n : Nat) (E : zE) (S : zS) (r47 : Nat × Int32 × Int32 × Int32 × Int32 × Int32 × Int32 × zH → Option (Int32 × zH)) (r63 : Nat × Int32 × Int32 × Int32 × Int32 × Int32 × Int32 × Int32 × Int32 × Int32 × zH → Option (Int32 × zH)) (a0 : Nat) (x1 : Int32) (x2 : Int32) (x3 : Int32) (x4 : Int32) (x5 : Int32) (x6 : Int32) (x8 : Int32) (x9 : Int32) (x10 : Int32) (x11 : Int32) (M : zH) (r : Int32) (M' : zH) (hr47 : ∀ (a0 : Nat) (x1 : Int32) (x2 : Int32) (x3 : Int32) (x4 : Int32) (x5 : Int32) (x6 : Int32) (M : zH), r47 (a0, x1, x2, x3, x4, x5, x6, M) = some (r, M') → zG E Y_Mo_cleared (some (.int r), S, M') 47 [(0, .ref a0), (1, .int x1), (2, .int x2), (3, .int x3), (4, .int x4), (5, .int x5), (6, .int x6)] [] S M 0 0) (hr63 : ∀ (a0 : Nat) (x1 : Int32) (x2 : Int32) (x3 : Int32) (x4 : Int32) (x5 : Int32) (x6 : Int32) (x7 : Int32) (x8 : Int32) (x9 : Int32) (M : zH), r63 (a0, x1, x2, x3, x4, x5, x6, x7, x8, x9, M) = some (r, M') → zG E Y_Mo_cleared (some (.int r), S, M') 63 [(0, .ref a0), (1, .int x1), (2, .int x2), (3, .int x3), (4, .int x4), (5, .int x5), (6, .int x6), (7, .int x7), (8, .int x8), (9, .int x9)] [] S M 0 0) (h : F_Mo_cleared_b129 n E S r47 r63 a0 x1 x2 x3 x4 x5 x6 x8 x9 x10 x11 M = some (r, M')) : zG E Y_Mo_cleared (some (.int r), S, M') 129 [(0, .ref a0), (1, .int x1), (2, .int x2), (3, .int x3), (4, .int x4), (5, .int x5), (6, .int x6), (8, .int x8), (9, .int x9), (10, .int x10), (11, .int x11)] [] S M 0 0 := by
  unfold F_Mo_cleared_b129 at h
  refine zi_iconst 0 d_Mo_cleared_129 rfl ?_
  refine zi_lo [(0, .ref a0), (1, .int x1), (2, .int x2), (3, .int x3), (4, .int x4), (5, .int x5), (6, .int x6), (8, .int x8), (9, .int x9), (10, .int x10), (11, .int x11)] [0, 1, 2, 3, 4, 5, 6, 7, 8, 9, 10] rfl ?_
  exact K_Mo_cleared_b130 n E S r47 r63 a0 x1 x2 x3 x4 x5 x6 x8 x9 x10 x11 0 M r M' hr47 hr63 h
theorem K_Mo_cleared_b228 (n : Nat) (E : zE) (S : zS) (r47 : Nat × Int32 × Int32 × Int32 × Int32 × Int32 × Int32 × zH → Option (Int32 × zH)) (a0 : Nat) (x1 : Int32) (x2 : Int32) (x3 : Int32) (x5 : Int32) (x6 : Int32) (s0 : Int32) (M : zH) (r : Int32) (M' : zH) (hr47 : ∀ (a0 : Nat) (x1 : Int32) (x2 : Int32) (x3 : Int32) (x4 : Int32) (x5 : Int32) (x6 : Int32) (M : zH), r47 (a0, x1, x2, x3, x4, x5, x6, M) = some (r, M') → zG E Y_Mo_cleared (some (.int r), S, M') 47 [(0, .ref a0), (1, .int x1), (2, .int x2), (3, .int x3), (4, .int x4), (5, .int x5), (6, .int x6)] [] S M 0 0) (h : F_Mo_cleared_b228 n E S r47 a0 x1 x2 x3 x5 x6 s0 M = some (r, M')) : zG E Y_Mo_cleared (some (.int r), S, M') 228 [(0, .ref a0), (1, .int x1), (2, .int x2), (3, .int x3), (5, .int x5), (6, .int x6)] [.int s0] S M 0 0 := by
  unfold F_Mo_cleared_b228 at h
  refine zi_istore [(4, .int s0), (0, .ref a0), (1, .int x1), (2, .int x2), (3, .int x3), (5, .int x5), (6, .int x6)] d_Mo_cleared_228 (by decide) rfl ?_
  refine zi_iinc 6 (x6 + 1) [(6, .int (x6 + 1)), (4, .int s0), (0, .ref a0), (1, .int x1), (2, .int x2), (3, .int x3), (5, .int x5)] d_Mo_cleared_230 rfl rfl (by decide) rfl ?_
  refine zi_goto (tgt := 47) d_Mo_cleared_233 rfl ?_
  refine zi_lo [(0, .ref a0), (1, .int x1), (2, .int x2), (3, .int x3), (4, .int s0), (5, .int x5), (6, .int (x6 + 1))] [2, 3, 4, 5, 1, 6, 0] rfl ?_
  exact hr47 a0 x1 x2 x3 s0 x5 (x6 + 1) M h
theorem K_Mo_cleared_b211 (n : Nat) (E : zE) (S : zS) (r47 : Nat × Int32 × Int32 × Int32 × Int32 × Int32 × Int32 × zH → Option (Int32 × zH)) (a0 : Nat) (x1 : Int32) (x2 : Int32) (x3 : Int32) (x4 : Int32) (x6 : Int32) (x9 : Int32) (s0 : Int32) (M : zH) (r : Int32) (M' : zH) (hr47 : ∀ (a0 : Nat) (x1 : Int32) (x2 : Int32) (x3 : Int32) (x4 : Int32) (x5 : Int32) (x6 : Int32) (M : zH), r47 (a0, x1, x2, x3, x4, x5, x6, M) = some (r, M') → zG E Y_Mo_cleared (some (.int r), S, M') 47 [(0, .ref a0), (1, .int x1), (2, .int x2), (3, .int x3), (4, .int x4), (5, .int x5), (6, .int x6)] [] S M 0 0) (h : F_Mo_cleared_b211 n E S r47 a0 x1 x2 x3 x4 x6 x9 s0 M = some (r, M')) : zG E Y_Mo_cleared (some (.int r), S, M') 211 [(0, .ref a0), (1, .int x1), (2, .int x2), (3, .int x3), (4, .int x4), (6, .int x6), (9, .int x9)] [.int s0] S M 0 0 := by
  unfold F_Mo_cleared_b211 at h
  refine zi_istore [(5, .int s0), (0, .ref a0), (1, .int x1), (2, .int x2), (3, .int x3), (4, .int x4), (6, .int x6), (9, .int x9)] d_Mo_cleared_211 (by decide) rfl ?_
  refine zi_iload 7 d_Mo_cleared_213 rfl ?_
  refine zi_if_eq (tgt := 226) d_Mo_cleared_215 rfl (fun c_6 => ?_) (fun c_6 => ?_)
  · rw [if_pos c_6] at h
    refine zi_iload 5 d_Mo_cleared_226 rfl ?_
    refine zi_lo [(0, .ref a0), (1, .int x1), (2, .int x2), (3, .int x3), (5, .int s0), (6, .int x6)] [1, 2, 3, 4, 0, 6] rfl ?_
    exact K_Mo_cleared_b228 n E S r47 a0 x1 x2 x3 s0 x6 x4 M r M' hr47 h
  · rw [if_neg c_6] at h
    refine zi_iload 6 d_Mo_cleared_218 rfl ?_
    obtain ⟨q_7, eq_7, h⟩ := zbind h
    refine zo_stat (k' := 0) (n' := 0) 223 [.int x6] [] [.int q_7.1] (C_Mo_ones n E S x6 M q_7.1 q_7.2 eq_7) d_Mo_cleared_220 tw_1820 tw_1818 tw_1819 tw_13 dd_Mo_ones ⟨Nat.le_of_ble_eq_true rfl, Nat.le_of_ble_eq_true rfl, Nat.le_of_ble_eq_true rfl, Nat.le_of_ble_eq_true rfl⟩ (Nat.le_of_ble_eq_true rfl) rfl rfl rfl rfl ?_
    refine zi_goto (tgt := 228) d_Mo_cleared_223 rfl ?_
    refine zi_lo [(0, .ref a0), (1, .int x1), (2, .int x2), (3, .int x3), (5, .int s0), (6, .int x6)] [1, 2, 3, 4, 0, 6] rfl ?_
    exact K_Mo_cleared_b228 n E S r47 a0 x1 x2 x3 s0 x6 q_7.1 q_7.2 r M' hr47 h
theorem K_Mo_cleared_b197 (n : Nat) (E : zE) (S : zS) (r47 : Nat × Int32 × Int32 × Int32 × Int32 × Int32 × Int32 × zH → Option (Int32 × zH)) (a0 : Nat) (x1 : Int32) (x2 : Int32) (x3 : Int32) (x4 : Int32) (x5 : Int32) (x6 : Int32) (s0 : Int32) (M : zH) (r : Int32) (M' : zH) (hr47 : ∀ (a0 : Nat) (x1 : Int32) (x2 : Int32) (x3 : Int32) (x4 : Int32) (x5 : Int32) (x6 : Int32) (M : zH), r47 (a0, x1, x2, x3, x4, x5, x6, M) = some (r, M') → zG E Y_Mo_cleared (some (.int r), S, M') 47 [(0, .ref a0), (1, .int x1), (2, .int x2), (3, .int x3), (4, .int x4), (5, .int x5), (6, .int x6)] [] S M 0 0) (h : F_Mo_cleared_b197 n E S r47 a0 x1 x2 x3 x4 x5 x6 s0 M = some (r, M')) : zG E Y_Mo_cleared (some (.int r), S, M') 197 [(0, .ref a0), (1, .int x1), (2, .int x2), (3, .int x3), (4, .int x4), (5, .int x5), (6, .int x6)] [.int s0] S M 0 0 := by
  unfold F_Mo_cleared_b197 at h
  refine zi_istore [(9, .int s0), (0, .ref a0), (1, .int x1), (2, .int x2), (3, .int x3), (4, .int x4), (5, .int x5), (6, .int x6)] d_Mo_cleared_197 (by decide) rfl ?_
  refine zi_iload 0 d_Mo_cleared_199 rfl ?_
  refine zi_if_eq (tgt := 209) d_Mo_cleared_201 rfl (fun c_8 => ?_) (fun c_8 => ?_)
  · rw [if_pos c_8] at h
    refine zi_iload 6 d_Mo_cleared_209 rfl ?_
    refine zi_lo [(0, .ref a0), (1, .int x1), (2, .int x2), (3, .int x3), (4, .int x4), (6, .int x6), (9, .int s0)] [1, 2, 3, 4, 5, 7, 0] rfl ?_
    exact K_Mo_cleared_b211 n E S r47 a0 x1 x2 x3 x4 x6 s0 x5 M r M' hr47 h
  · rw [if_neg c_8] at h
    refine zi_iload 7 d_Mo_cleared_204 rfl ?_
    refine zi_goto (tgt := 211) d_Mo_cleared_206 rfl ?_
    refine zi_lo [(0, .ref a0), (1, .int x1), (2, .int x2), (3, .int x3), (4, .int x4), (6, .int x6), (9, .int s0)] [1, 2, 3, 4, 5, 7, 0] rfl ?_
    exact K_Mo_cleared_b211 n E S r47 a0 x1 x2 x3 x4 x6 s0 x6 M r M' hr47 h
theorem K_Mo_cleared_b196 (n : Nat) (E : zE) (S : zS) (r47 : Nat × Int32 × Int32 × Int32 × Int32 × Int32 × Int32 × zH → Option (Int32 × zH)) (a0 : Nat) (x1 : Int32) (x2 : Int32) (x3 : Int32) (x4 : Int32) (x5 : Int32) (x6 : Int32) (M : zH) (r : Int32) (M' : zH) (hr47 : ∀ (a0 : Nat) (x1 : Int32) (x2 : Int32) (x3 : Int32) (x4 : Int32) (x5 : Int32) (x6 : Int32) (M : zH), r47 (a0, x1, x2, x3, x4, x5, x6, M) = some (r, M') → zG E Y_Mo_cleared (some (.int r), S, M') 47 [(0, .ref a0), (1, .int x1), (2, .int x2), (3, .int x3), (4, .int x4), (5, .int x5), (6, .int x6)] [] S M 0 0) (h : F_Mo_cleared_b196 n E S r47 a0 x1 x2 x3 x4 x5 x6 M = some (r, M')) : zG E Y_Mo_cleared (some (.int r), S, M') 196 [(0, .ref a0), (1, .int x1), (2, .int x2), (3, .int x3), (4, .int x4), (5, .int x5), (6, .int x6)] [] S M 0 0 := by
  unfold F_Mo_cleared_b196 at h
  refine zi_iconst 0 d_Mo_cleared_196 rfl ?_
  refine zi_lo [(0, .ref a0), (1, .int x1), (2, .int x2), (3, .int x3), (4, .int x4), (5, .int x5), (6, .int x6)] [0, 1, 2, 3, 4, 5, 6] rfl ?_
  exact K_Mo_cleared_b197 n E S r47 a0 x1 x2 x3 x4 x5 x6 0 M r M' hr47 h
theorem K_Mo_cleared_L63 (n : Nat) (E : zE) (S : zS) (r47 : Nat × Int32 × Int32 × Int32 × Int32 × Int32 × Int32 × zH → Option (Int32 × zH)) (r63 : Nat × Int32 × Int32 × Int32 × Int32 × Int32 × Int32 × Int32 × Int32 × Int32 × zH → Option (Int32 × zH)) (a0 : Nat) (x1 : Int32) (x2 : Int32) (x3 : Int32) (x4 : Int32) (x5 : Int32) (x6 : Int32) (x7 : Int32) (x8 : Int32) (x9 : Int32) (M : zH) (r : Int32) (M' : zH) (hr47 : ∀ (a0 : Nat) (x1 : Int32) (x2 : Int32) (x3 : Int32) (x4 : Int32) (x5 : Int32) (x6 : Int32) (M : zH), r47 (a0, x1, x2, x3, x4, x5, x6, M) = some (r, M') → zG E Y_Mo_cleared (some (.int r), S, M') 47 [(0, .ref a0), (1, .int x1), (2, .int x2), (3, .int x3), (4, .int x4), (5, .int x5), (6, .int x6)] [] S M 0 0) (hr63 : ∀ (a0 : Nat) (x1 : Int32) (x2 : Int32) (x3 : Int32) (x4 : Int32) (x5 : Int32) (x6 : Int32) (x7 : Int32) (x8 : Int32) (x9 : Int32) (M : zH), r63 (a0, x1, x2, x3, x4, x5, x6, x7, x8, x9, M) = some (r, M') → zG E Y_Mo_cleared (some (.int r), S, M') 63 [(0, .ref a0), (1, .int x1), (2, .int x2), (3, .int x3), (4, .int x4), (5, .int x5), (6, .int x6), (7, .int x7), (8, .int x8), (9, .int x9)] [] S M 0 0) (h : F_Mo_cleared_L63 n E S r47 r63 a0 x1 x2 x3 x4 x5 x6 x7 x8 x9 M = some (r, M')) : zG E Y_Mo_cleared (some (.int r), S, M') 63 [(0, .ref a0), (1, .int x1), (2, .int x2), (3, .int x3), (4, .int x4), (5, .int x5), (6, .int x6), (7, .int x7), (8, .int x8), (9, .int x9)] [] S M 0 0 := by
  unfold F_Mo_cleared_L63 at h
  refine zi_iload 9 d_Mo_cleared_63 rfl ?_
  refine zi_iconst 4 d_Mo_cleared_65 rfl ?_
  refine zi_icmp_ge (tgt := 171) d_Mo_cleared_66 rfl (fun c_9 => ?_) (fun c_9 => ?_)
  · rw [if_pos c_9] at h
    refine zi_iload 7 d_Mo_cleared_171 rfl ?_
    refine zi_if_eq (tgt := 196) d_Mo_cleared_173 rfl (fun c_10 => ?_) (fun c_10 => ?_)
    · rw [if_pos c_10] at h
      refine zi_lo [(0, .ref a0), (1, .int x1), (2, .int x2), (3, .int x3), (4, .int x4), (5, .int x5), (6, .int x6)] [0, 1, 2, 3, 4, 5, 6] rfl ?_
      exact K_Mo_cleared_b196 n E S r47 a0 x1 x2 x3 x4 x5 x6 M r M' hr47 h
    · rw [if_neg c_10] at h
      refine zi_iload 8 d_Mo_cleared_176 rfl ?_
      refine zi_iload_n 2 d_Mo_cleared_178 rfl ?_
      refine zi_icmp_lt (tgt := 196) d_Mo_cleared_179 rfl (fun c_11 => ?_) (fun c_11 => ?_)
      · rw [if_pos c_11] at h
        refine zi_lo [(0, .ref a0), (1, .int x1), (2, .int x2), (3, .int x3), (4, .int x4), (5, .int x5), (6, .int x6)] [0, 1, 2, 3, 4, 5, 6] rfl ?_
        exact K_Mo_cleared_b196 n E S r47 a0 x1 x2 x3 x4 x5 x6 M r M' hr47 h
      · rw [if_neg c_11] at h
        refine zi_iload 6 d_Mo_cleared_182 rfl ?_
        obtain ⟨q_12, eq_12, h⟩ := zbind h
        refine zo_stat (k' := 0) (n' := 0) 187 [.int x6] [] [.int q_12.1] (C_Mo_ones n E S x6 M q_12.1 q_12.2 eq_12) d_Mo_cleared_184 tw_1820 tw_1818 tw_1819 tw_13 dd_Mo_ones ⟨Nat.le_of_ble_eq_true rfl, Nat.le_of_ble_eq_true rfl, Nat.le_of_ble_eq_true rfl, Nat.le_of_ble_eq_true rfl⟩ (Nat.le_of_ble_eq_true rfl) rfl rfl rfl rfl ?_
        refine zi_iload 4 d_Mo_cleared_187 rfl ?_
        refine zi_icmp_ge (tgt := 196) d_Mo_cleared_189 rfl (fun c_13 => ?_) (fun c_13 => ?_)
        · rw [if_pos c_13] at h
          refine zi_lo [(0, .ref a0), (1, .int x1), (2, .int x2), (3, .int x3), (4, .int x4), (5, .int x5), (6, .int x6)] [0, 1, 2, 3, 4, 5, 6] rfl ?_
          exact K_Mo_cleared_b196 n E S r47 a0 x1 x2 x3 x4 x5 x6 q_12.2 r M' hr47 h
        · rw [if_neg c_13] at h
          refine zi_iconst 1 d_Mo_cleared_192 rfl ?_
          refine zi_goto (tgt := 197) d_Mo_cleared_193 rfl ?_
          refine zi_lo [(0, .ref a0), (1, .int x1), (2, .int x2), (3, .int x3), (4, .int x4), (5, .int x5), (6, .int x6)] [0, 1, 2, 3, 4, 5, 6] rfl ?_
          exact K_Mo_cleared_b197 n E S r47 a0 x1 x2 x3 x4 x5 x6 1 q_12.2 r M' hr47 h
  · rw [if_neg c_9] at h
    refine zi_aload_n 0 d_Mo_cleared_69 rfl ?_
    refine zi_iload 9 d_Mo_cleared_70 rfl ?_
    refine zi_iload_n 1 d_Mo_cleared_72 rfl ?_
    refine zi_aload_n 0 d_Mo_cleared_73 rfl ?_
    obtain ⟨b_14, eb_14, h⟩ := zbind h
    refine zo_getR 77 zkd_11 3 d_Mo_cleared_74 eb_14 rfl tw_1234 rfl ?_
    refine zi_bipush 8 d_Mo_cleared_77 rfl ?_
    refine zi_iload 9 d_Mo_cleared_79 rfl ?_
    refine zi_iadd d_Mo_cleared_81 ?_
    obtain ⟨v_15, ev_15, h⟩ := zbind h
    refine zo_iald 83 d_Mo_cleared_82 ev_15 rfl ?_
    obtain ⟨q_16, eq_16, h⟩ := zbind h
    refine zo_virt (k' := 0) (n' := 0) 86 [.int x9, .int x1, .int v_15] [] [.int q_16.1] zkd_11 (zgR_s eb_14).1 (C_Mo_holeAbove n E S a0 x9 x1 v_15 M q_16.1 q_16.2 eq_16) d_Mo_cleared_83 tw_1529 tw_1526 tw_1528 ts_52 tw_13 dd_Mo_holeAbove ⟨Nat.le_of_ble_eq_true rfl, Nat.le_of_ble_eq_true rfl, Nat.le_of_ble_eq_true rfl, Nat.le_of_ble_eq_true rfl⟩ (Nat.le_of_ble_eq_true rfl) rfl rfl rfl rfl ?_
    refine zi_istore [(10, .int q_16.1), (0, .ref a0), (1, .int x1), (2, .int x2), (3, .int x3), (4, .int x4), (5, .int x5), (6, .int x6), (7, .int x7), (8, .int x8), (9, .int x9)] d_Mo_cleared_86 (by decide) rfl ?_
    refine zi_aload_n 1 d_Mo_cleared_88 rfl ?_
    refine zo_getR 92 zkd_11 3 d_Mo_cleared_89 eb_14 rfl tw_1234 rfl ?_
    refine zi_bipush 44 d_Mo_cleared_92 rfl ?_
    refine zi_iload 10 d_Mo_cleared_94 rfl ?_
    refine zi_iadd d_Mo_cleared_96 ?_
    obtain ⟨v_17, ev_17, h⟩ := zbind h
    refine zo_iald 98 d_Mo_cleared_97 ev_17 rfl ?_
    refine zi_iload 0 d_Mo_cleared_98 rfl ?_
    obtain ⟨q_18, eq_18, h⟩ := zbind h
    refine zo_stat (k' := 0) (n' := 0) 103 [.int v_17, .int q_16.1] [] [.int (bI q_18.1)] (C_Mo_is n E S v_17 q_16.1 q_16.2 q_18.1 q_18.2 eq_18) d_Mo_cleared_100 tw_1444 tw_1442 tw_1443 tw_13 dd_Mo_is ⟨Nat.le_of_ble_eq_true rfl, Nat.le_of_ble_eq_true rfl, Nat.le_of_ble_eq_true rfl, Nat.le_of_ble_eq_true rfl⟩ (Nat.le_of_ble_eq_true rfl) rfl rfl rfl rfl ?_
    refine zi_istore [(11, .int (bI q_18.1)), (10, .int q_16.1), (0, .ref a0), (1, .int x1), (2, .int x2), (3, .int x3), (4, .int x4), (5, .int x5), (6, .int x6), (7, .int x7), (8, .int x8), (9, .int x9)] d_Mo_cleared_103 (by decide) rfl ?_
    refine zi_iload 9 d_Mo_cleared_105 rfl ?_
    refine zi_if_eq (tgt := 129) d_Mo_cleared_107 rfl (fun c_19 => ?_) (fun c_19 => ?_)
    · rw [if_pos c_19] at h
      refine zi_lo [(0, .ref a0), (1, .int x1), (2, .int x2), (3, .int x3), (4, .int x4), (5, .int x5), (6, .int x6), (8, .int x8), (9, .int x9), (10, .int q_16.1), (11, .int (bI q_18.1))] [2, 3, 4, 5, 6, 7, 8, 10, 11, 1, 0] rfl ?_
      exact K_Mo_cleared_b129 n E S r47 r63 a0 x1 x2 x3 x4 x5 x6 x8 x9 q_16.1 (bI q_18.1) q_18.2 r M' hr47 hr63 h
    · rw [if_neg c_19] at h
      refine zi_iload 0 d_Mo_cleared_110 rfl ?_
      refine zi_if_ne (tgt := 125) d_Mo_cleared_112 rfl (fun c_20 => ?_) (fun c_20 => ?_)
      · rw [if_neg c_20] at h
        refine zi_lo [(0, .ref a0), (1, .int x1), (2, .int x2), (3, .int x3), (4, .int x4), (5, .int x5), (6, .int x6), (8, .int x8), (9, .int x9), (10, .int q_16.1), (11, .int (bI q_18.1))] [2, 3, 4, 5, 6, 7, 8, 10, 11, 1, 0] rfl ?_
        exact K_Mo_cleared_b125 n E S r47 r63 a0 x1 x2 x3 x4 x5 x6 x8 x9 q_16.1 (bI q_18.1) q_18.2 r M' hr47 hr63 h
      · rw [if_pos c_20] at h
        refine zi_iload 8 d_Mo_cleared_115 rfl ?_
        refine zi_iload 11 d_Mo_cleared_117 rfl ?_
        obtain ⟨q_21, eq_21, h⟩ := zbind h
        refine zo_stat (k' := 0) (n' := 0) 122 [.int x6, .int x9] [] [.int (bI q_21.1)] (C_Mo_is n E S x6 x9 q_18.2 q_21.1 q_21.2 eq_21) d_Mo_cleared_119 tw_1444 tw_1442 tw_1443 tw_13 dd_Mo_is ⟨Nat.le_of_ble_eq_true rfl, Nat.le_of_ble_eq_true rfl, Nat.le_of_ble_eq_true rfl, Nat.le_of_ble_eq_true rfl⟩ (Nat.le_of_ble_eq_true rfl) rfl rfl rfl rfl ?_
        refine zo_ifneB d_Mo_cleared_122 rfl 125 rfl (fun c_22 => ?_) (fun c_22 => ?_)
        · rw [if_pos c_22] at h
          refine zi_lo [(0, .ref a0), (1, .int x1), (2, .int x2), (3, .int x3), (4, .int x4), (5, .int x5), (6, .int x6), (8, .int x8), (9, .int x9), (10, .int q_16.1), (11, .int (bI q_18.1))] [2, 3, 4, 5, 6, 7, 8, 10, 11, 1, 0] rfl ?_
          exact K_Mo_cleared_b129 n E S r47 r63 a0 x1 x2 x3 x4 x5 x6 x8 x9 q_16.1 (bI q_18.1) q_21.2 r M' hr47 hr63 h
        · rw [if_neg c_22] at h
          refine zi_lo [(0, .ref a0), (1, .int x1), (2, .int x2), (3, .int x3), (4, .int x4), (5, .int x5), (6, .int x6), (8, .int x8), (9, .int x9), (10, .int q_16.1), (11, .int (bI q_18.1))] [2, 3, 4, 5, 6, 7, 8, 10, 11, 1, 0] rfl ?_
          exact K_Mo_cleared_b125 n E S r47 r63 a0 x1 x2 x3 x4 x5 x6 x8 x9 q_16.1 (bI q_18.1) q_21.2 r M' hr47 hr63 h
theorem K_Mo_cleared_b63 (n : Nat) (E : zE) (S : zS) (r47 : Nat × Int32 × Int32 × Int32 × Int32 × Int32 × Int32 × zH → Option (Int32 × zH)) (a0 : Nat) (x1 : Int32) (x2 : Int32) (x3 : Int32) (x4 : Int32) (x5 : Int32) (x6 : Int32) (x7 : Int32) (x8 : Int32) (x9 : Int32) (M : zH) (r : Int32) (M' : zH) (hr47 : ∀ (a0 : Nat) (x1 : Int32) (x2 : Int32) (x3 : Int32) (x4 : Int32) (x5 : Int32) (x6 : Int32) (M : zH), r47 (a0, x1, x2, x3, x4, x5, x6, M) = some (r, M') → zG E Y_Mo_cleared (some (.int r), S, M') 47 [(0, .ref a0), (1, .int x1), (2, .int x2), (3, .int x3), (4, .int x4), (5, .int x5), (6, .int x6)] [] S M 0 0) (h : F_Mo_cleared_b63 n E S r47 (a0, x1, x2, x3, x4, x5, x6, x7, x8, x9, M) = some (r, M')) : zG E Y_Mo_cleared (some (.int r), S, M') 63 [(0, .ref a0), (1, .int x1), (2, .int x2), (3, .int x3), (4, .int x4), (5, .int x5), (6, .int x6), (7, .int x7), (8, .int x8), (9, .int x9)] [] S M 0 0 := by
  have key : ∀ (k : Nat) (a0 : Nat) (x1 : Int32) (x2 : Int32) (x3 : Int32) (x4 : Int32) (x5 : Int32) (x6 : Int32) (x7 : Int32) (x8 : Int32) (x9 : Int32) (M : zH), zfix (fun r63 s => F_Mo_cleared_L63 n E S r47 r63 s.1 s.2.1 s.2.2.1 s.2.2.2.1 s.2.2.2.2.1 s.2.2.2.2.2.1 s.2.2.2.2.2.2.1 s.2.2.2.2.2.2.2.1 s.2.2.2.2.2.2.2.2.1 s.2.2.2.2.2.2.2.2.2.1 s.2.2.2.2.2.2.2.2.2.2) k (a0, x1, x2, x3, x4, x5, x6, x7, x8, x9, M) = some (r, M') → zG E Y_Mo_cleared (some (.int r), S, M') 63 [(0, .ref a0), (1, .int x1), (2, .int x2), (3, .int x3), (4, .int x4), (5, .int x5), (6, .int x6), (7, .int x7), (8, .int x8), (9, .int x9)] [] S M 0 0 := by
    intro k
    induction k with
    | zero => intro a0 x1 x2 x3 x4 x5 x6 x7 x8 x9 M h; cases h
    | succ k ih => intro a0 x1 x2 x3 x4 x5 x6 x7 x8 x9 M h; exact K_Mo_cleared_L63 n E S r47 _ a0 x1 x2 x3 x4 x5 x6 x7 x8 x9 M r M' hr47 (fun a0 x1 x2 x3 x4 x5 x6 x7 x8 x9 M h => ih a0 x1 x2 x3 x4 x5 x6 x7 x8 x9 M h) h
  exact key n a0 x1 x2 x3 x4 x5 x6 x7 x8 x9 M h
theorem K_Mo_cleared_b247 (n : Nat) (E : zE) (S : zS) (x5 : Int32) (M : zH) (r : Int32) (M' : zH)  (h : F_Mo_cleared_b247 n E S x5 M = some (r, M')) : zG E Y_Mo_cleared (some (.int r), S, M') 247 [(5, .int x5)] [] S M 0 0 := by
  unfold F_Mo_cleared_b247 at h
  refine zi_iload 0 d_Mo_cleared_247 rfl ?_
  refine zi_goto (tgt := 254) d_Mo_cleared_249 rfl ?_
  cases h
  exact zo_ret d_Mo_cleared_254 (Nat.le_of_ble_eq_true rfl) (Nat.le_of_ble_eq_true rfl) rfl
theorem K_Mo_cleared_L47 (n : Nat) (E : zE) (S : zS) (r47 : Nat × Int32 × Int32 × Int32 × Int32 × Int32 × Int32 × zH → Option (Int32 × zH)) (a0 : Nat) (x1 : Int32) (x2 : Int32) (x3 : Int32) (x4 : Int32) (x5 : Int32) (x6 : Int32) (M : zH) (r : Int32) (M' : zH) (hr47 : ∀ (a0 : Nat) (x1 : Int32) (x2 : Int32) (x3 : Int32) (x4 : Int32) (x5 : Int32) (x6 : Int32) (M : zH), r47 (a0, x1, x2, x3, x4, x5, x6, M) = some (r, M') → zG E Y_Mo_cleared (some (.int r), S, M') 47 [(0, .ref a0), (1, .int x1), (2, .int x2), (3, .int x3), (4, .int x4), (5, .int x5), (6, .int x6)] [] S M 0 0) (h : F_Mo_cleared_L47 n E S r47 a0 x1 x2 x3 x4 x5 x6 M = some (r, M')) : zG E Y_Mo_cleared (some (.int r), S, M') 47 [(0, .ref a0), (1, .int x1), (2, .int x2), (3, .int x3), (4, .int x4), (5, .int x5), (6, .int x6)] [] S M 0 0 := by
  unfold F_Mo_cleared_L47 at h
  refine zi_iload 6 d_Mo_cleared_47 rfl ?_
  refine zi_bipush 16 d_Mo_cleared_49 rfl ?_
  refine zi_icmp_ge (tgt := 236) d_Mo_cleared_51 rfl (fun c_23 => ?_) (fun c_23 => ?_)
  · rw [if_pos c_23] at h
    refine zi_iload 5 d_Mo_cleared_236 rfl ?_
    refine zi_iconst (-1) d_Mo_cleared_238 rfl ?_
    refine zi_icmp_eq (tgt := 247) d_Mo_cleared_239 rfl (fun c_24 => ?_) (fun c_24 => ?_)
    · rw [if_pos c_24] at h
      refine zi_lo [(5, .int x5)] [5] rfl ?_
      exact K_Mo_cleared_b247 n E S x5 M r M'  h
    · rw [if_neg c_24] at h
      refine zi_iload_n 3 d_Mo_cleared_242 rfl ?_
      refine zi_iconst 1 d_Mo_cleared_243 rfl ?_
      refine zi_icmp_ne (tgt := 252) d_Mo_cleared_244 rfl (fun c_25 => ?_) (fun c_25 => ?_)
      · rw [if_neg c_25] at h
        refine zi_iload 4 d_Mo_cleared_252 rfl ?_
        cases h
        exact zo_ret d_Mo_cleared_254 (Nat.le_of_ble_eq_true rfl) (Nat.le_of_ble_eq_true rfl) rfl
      · rw [if_pos c_25] at h
        refine zi_lo [(5, .int x5)] [5] rfl ?_
        exact K_Mo_cleared_b247 n E S x5 M r M'  h
  · rw [if_neg c_23] at h
    refine zi_iconst 1 d_Mo_cleared_54 rfl ?_
    refine zi_istore [(7, .int 1), (0, .ref a0), (1, .int x1), (2, .int x2), (3, .int x3), (4, .int x4), (5, .int x5), (6, .int x6)] d_Mo_cleared_55 (by decide) rfl ?_
    refine zi_iconst 0 d_Mo_cleared_57 rfl ?_
    refine zi_istore [(8, .int 0), (7, .int 1), (0, .ref a0), (1, .int x1), (2, .int x2), (3, .int x3), (4, .int x4), (5, .int x5), (6, .int x6)] d_Mo_cleared_58 (by decide) rfl ?_
    refine zi_iconst 0 d_Mo_cleared_60 rfl ?_
    refine zi_istore [(9, .int 0), (8, .int 0), (7, .int 1), (0, .ref a0), (1, .int x1), (2, .int x2), (3, .int x3), (4, .int x4), (5, .int x5), (6, .int x6)] d_Mo_cleared_61 (by decide) rfl ?_
    refine zi_lo [(0, .ref a0), (1, .int x1), (2, .int x2), (3, .int x3), (4, .int x4), (5, .int x5), (6, .int x6), (7, .int 1), (8, .int 0), (9, .int 0)] [3, 4, 5, 6, 7, 8, 9, 2, 1, 0] rfl ?_
    exact K_Mo_cleared_b63 n E S r47 a0 x1 x2 x3 x4 x5 x6 1 0 0 M r M' hr47 h
theorem K_Mo_cleared_b47 (n : Nat) (E : zE) (S : zS) (a0 : Nat) (x1 : Int32) (x2 : Int32) (x3 : Int32) (x4 : Int32) (x5 : Int32) (x6 : Int32) (M : zH) (r : Int32) (M' : zH)  (h : F_Mo_cleared_b47 n E S (a0, x1, x2, x3, x4, x5, x6, M) = some (r, M')) : zG E Y_Mo_cleared (some (.int r), S, M') 47 [(0, .ref a0), (1, .int x1), (2, .int x2), (3, .int x3), (4, .int x4), (5, .int x5), (6, .int x6)] [] S M 0 0 := by
  have key : ∀ (k : Nat) (a0 : Nat) (x1 : Int32) (x2 : Int32) (x3 : Int32) (x4 : Int32) (x5 : Int32) (x6 : Int32) (M : zH), zfix (fun r47 s => F_Mo_cleared_L47 n E S r47 s.1 s.2.1 s.2.2.1 s.2.2.2.1 s.2.2.2.2.1 s.2.2.2.2.2.1 s.2.2.2.2.2.2.1 s.2.2.2.2.2.2.2) k (a0, x1, x2, x3, x4, x5, x6, M) = some (r, M') → zG E Y_Mo_cleared (some (.int r), S, M') 47 [(0, .ref a0), (1, .int x1), (2, .int x2), (3, .int x3), (4, .int x4), (5, .int x5), (6, .int x6)] [] S M 0 0 := by
    intro k
    induction k with
    | zero => intro a0 x1 x2 x3 x4 x5 x6 M h; cases h
    | succ k ih => intro a0 x1 x2 x3 x4 x5 x6 M h; exact K_Mo_cleared_L47 n E S _ a0 x1 x2 x3 x4 x5 x6 M r M'  (fun a0 x1 x2 x3 x4 x5 x6 M h => ih a0 x1 x2 x3 x4 x5 x6 M h) h
  exact key n a0 x1 x2 x3 x4 x5 x6 M h
theorem K_Mo_cleared (n : Nat) (E : zE) (S : zS) (a0 : Nat) (x1 : Int32) (x2 : Int32) (x3 : Int32) (M : zH) (r : Int32) (M' : zH)  (h : F_Mo_cleared n E S a0 x1 x2 x3 M = some (r, M')) : zG E Y_Mo_cleared (some (.int r), S, M') 0 [(0, .ref a0), (1, .int x1), (2, .int x2), (3, .int x3)] [] S M 0 0 := by
  unfold F_Mo_cleared at h
  refine zi_aload_n 0 d_Mo_cleared_0 rfl ?_
  refine zi_iconst 0 d_Mo_cleared_1 rfl ?_
  obtain ⟨m_26, em_26, h⟩ := zbind h
  refine zo_putI 5 zkd_11 0 d_Mo_cleared_2 em_26 rfl rfl rfl tw_1231 rfl ?_
  refine zi_iload_n 1 d_Mo_cleared_5 rfl ?_
  obtain ⟨q_27, eq_27, h⟩ := zbind h
  refine zo_stat (k' := 0) (n' := 0) 9 [.int x1] [] [.int (bI q_27.1)] (C_Mo_isField n E S x1 m_26 q_27.1 q_27.2 eq_27) d_Mo_cleared_6 tw_1440 tw_1438 tw_1439 tw_13 dd_Mo_isField ⟨Nat.le_of_ble_eq_true rfl, Nat.le_of_ble_eq_true rfl, Nat.le_of_ble_eq_true rfl, Nat.le_of_ble_eq_true rfl⟩ (Nat.le_of_ble_eq_true rfl) rfl rfl rfl rfl ?_
  refine zo_ifeqB d_Mo_cleared_9 rfl 12 rfl (fun c_28 => ?_) (fun c_28 => ?_)
  · rw [if_neg c_28] at h
    refine zi_iconst (-1) d_Mo_cleared_34 rfl ?_
    cases h
    exact zo_ret d_Mo_cleared_35 (Nat.le_of_ble_eq_true rfl) (Nat.le_of_ble_eq_true rfl) rfl
  · rw [if_pos c_28] at h
    refine zi_iload_n 2 d_Mo_cleared_12 rfl ?_
    refine zi_i2l d_Mo_cleared_13 ?_
    refine zi_lconst 0 d_Mo_cleared_14 rfl ?_
    refine zi_ldc2 d_Mo_cleared_15 tw_1517 ?_
    obtain ⟨q_29, eq_29, h⟩ := zbind h
    refine zo_stat (k' := 0) (n' := 0) 21 [.long x2.toInt64, .long 0, .long 400] [] [.int (bI q_29.1)] (C_Mo_in n E S x2.toInt64 0 400 q_27.2 q_29.1 q_29.2 eq_29) d_Mo_cleared_18 tw_1421 tw_1419 tw_1420 tw_13 dd_Mo_in ⟨Nat.le_of_ble_eq_true rfl, Nat.le_of_ble_eq_true rfl, Nat.le_of_ble_eq_true rfl, Nat.le_of_ble_eq_true rfl⟩ (Nat.le_of_ble_eq_true rfl) rfl rfl rfl rfl ?_
    refine zo_ifeqB d_Mo_cleared_21 rfl 24 rfl (fun c_30 => ?_) (fun c_30 => ?_)
    · rw [if_neg c_30] at h
      refine zi_iconst (-1) d_Mo_cleared_34 rfl ?_
      cases h
      exact zo_ret d_Mo_cleared_35 (Nat.le_of_ble_eq_true rfl) (Nat.le_of_ble_eq_true rfl) rfl
    · rw [if_pos c_30] at h
      refine zi_iload_n 3 d_Mo_cleared_24 rfl ?_
      refine zi_i2l d_Mo_cleared_25 ?_
      refine zi_lconst 0 d_Mo_cleared_26 rfl ?_
      refine zi_lconst 1 d_Mo_cleared_27 rfl ?_
      obtain ⟨q_31, eq_31, h⟩ := zbind h
      refine zo_stat (k' := 0) (n' := 0) 31 [.long x3.toInt64, .long 0, .long 1] [] [.int (bI q_31.1)] (C_Mo_in n E S x3.toInt64 0 1 q_29.2 q_31.1 q_31.2 eq_31) d_Mo_cleared_28 tw_1421 tw_1419 tw_1420 tw_13 dd_Mo_in ⟨Nat.le_of_ble_eq_true rfl, Nat.le_of_ble_eq_true rfl, Nat.le_of_ble_eq_true rfl, Nat.le_of_ble_eq_true rfl⟩ (Nat.le_of_ble_eq_true rfl) rfl rfl rfl rfl ?_
      refine zo_ifneB d_Mo_cleared_31 rfl 34 rfl (fun c_32 => ?_) (fun c_32 => ?_)
      · rw [if_pos c_32] at h
        refine zi_ldcw d_Mo_cleared_36 tw_1801 ?_
        refine zi_istore [(4, .int 100000000), (0, .ref a0), (1, .int x1), (2, .int x2), (3, .int x3)] d_Mo_cleared_39 (by decide) rfl ?_
        refine zi_iconst (-1) d_Mo_cleared_41 rfl ?_
        refine zi_istore [(5, .int (-1)), (4, .int 100000000), (0, .ref a0), (1, .int x1), (2, .int x2), (3, .int x3)] d_Mo_cleared_42 (by decide) rfl ?_
        refine zi_iconst 0 d_Mo_cleared_44 rfl ?_
        refine zi_istore [(6, .int 0), (5, .int (-1)), (4, .int 100000000), (0, .ref a0), (1, .int x1), (2, .int x2), (3, .int x3)] d_Mo_cleared_45 (by decide) rfl ?_
        refine zi_lo [(0, .ref a0), (1, .int x1), (2, .int x2), (3, .int x3), (4, .int 100000000), (5, .int (-1)), (6, .int 0)] [3, 4, 5, 6, 2, 1, 0] rfl ?_
        exact K_Mo_cleared_b47 n E S a0 x1 x2 x3 100000000 (-1) 0 q_31.2 r M'  h
      · rw [if_neg c_32] at h
        refine zi_iconst (-1) d_Mo_cleared_34 rfl ?_
        cases h
        exact zo_ret d_Mo_cleared_35 (Nat.le_of_ble_eq_true rfl) (Nat.le_of_ble_eq_true rfl) rfl
theorem C_Mo_cleared (n : Nat) (E : zE) (S : zS) (a0 : Nat) (x1 : Int32) (x2 : Int32) (x3 : Int32) (M : zH) (r : Int32) (M' : zH) (h : F_Mo_cleared n E S a0 x1 x2 x3 M = some (r, M')) : zC E Y_Mo_cleared [.ref a0, .int x1, .int x2, .int x3] S M (some (.int r), S, M') :=
  zC.of (Or.inl (show plainName "NightColanderModel" = true by decide)) (Nat.le_of_ble_eq_true rfl) (trivial) (K_Mo_cleared n E S a0 x1 x2 x3 M r M' h)
theorem d_Mo_drought_0 : decode (yB Y_Mo_drought) 0 = .ok (.aload_n 0, 1) := by decide +kernel
theorem d_Mo_drought_1 : decode (yB Y_Mo_drought) 1 = .ok (.iconst 0, 1) := by decide +kernel
theorem d_Mo_drought_2 : decode (yB Y_Mo_drought) 2 = .ok (.putfield 156, 3) := by decide +kernel
theorem d_Mo_drought_5 : decode (yB Y_Mo_drought) 5 = .ok (.iload_n 1, 1) := by decide +kernel
theorem d_Mo_drought_6 : decode (yB Y_Mo_drought) 6 = .ok (.invokestatic 194, 3) := by decide +kernel
theorem d_Mo_drought_9 : decode (yB Y_Mo_drought) 9 = .ok (.ifCond .ne 5, 3) := by decide +kernel
theorem d_Mo_drought_12 : decode (yB Y_Mo_drought) 12 = .ok (.iconst (-1), 1) := by decide +kernel
theorem d_Mo_drought_13 : decode (yB Y_Mo_drought) 13 = .ok (.ireturn, 1) := by decide +kernel
theorem d_Mo_drought_14 : decode (yB Y_Mo_drought) 14 = .ok (.aload_n 0, 1) := by decide +kernel
theorem d_Mo_drought_15 : decode (yB Y_Mo_drought) 15 = .ok (.bipush 16, 2) := by decide +kernel
theorem d_Mo_drought_17 : decode (yB Y_Mo_drought) 17 = .ok (.invokevirtual 169, 3) := by decide +kernel
theorem d_Mo_drought_20 : decode (yB Y_Mo_drought) 20 = .ok (.iconst 0, 1) := by decide +kernel
theorem d_Mo_drought_21 : decode (yB Y_Mo_drought) 21 = .ok (.istore_n 2, 1) := by decide +kernel
theorem d_Mo_drought_22 : decode (yB Y_Mo_drought) 22 = .ok (.iconst 0, 1) := by decide +kernel
theorem d_Mo_drought_23 : decode (yB Y_Mo_drought) 23 = .ok (.istore_n 3, 1) := by decide +kernel
theorem d_Mo_drought_24 : decode (yB Y_Mo_drought) 24 = .ok (.iconst 0, 1) := by decide +kernel
theorem d_Mo_drought_25 : decode (yB Y_Mo_drought) 25 = .ok (.istore 4, 2) := by decide +kernel
theorem d_Mo_drought_27 : decode (yB Y_Mo_drought) 27 = .ok (.iload 4, 2) := by decide +kernel
theorem d_Mo_drought_29 : decode (yB Y_Mo_drought) 29 = .ok (.bipush 60, 2) := by decide +kernel
theorem d_Mo_drought_31 : decode (yB Y_Mo_drought) 31 = .ok (.if_icmp .ge 40, 3) := by decide +kernel
theorem d_Mo_drought_34 : decode (yB Y_Mo_drought) 34 = .ok (.aload_n 0, 1) := by decide +kernel
theorem d_Mo_drought_35 : decode (yB Y_Mo_drought) 35 = .ok (.iload_n 1, 1) := by decide +kernel
theorem d_Mo_drought_36 : decode (yB Y_Mo_drought) 36 = .ok (.invokevirtual 232, 3) := by decide +kernel
theorem d_Mo_drought_39 : decode (yB Y_Mo_drought) 39 = .ok (.ifCond .ne 9, 3) := by decide +kernel
theorem d_Mo_drought_42 : decode (yB Y_Mo_drought) 42 = .ok (.iload_n 3, 1) := by decide +kernel
theorem d_Mo_drought_43 : decode (yB Y_Mo_drought) 43 = .ok (.iconst 1, 1) := by decide +kernel
theorem d_Mo_drought_44 : decode (yB Y_Mo_drought) 44 = .ok (.iadd, 1) := by decide +kernel
theorem d_Mo_drought_45 : decode (yB Y_Mo_drought) 45 = .ok (.goto 4, 3) := by decide +kernel
theorem d_Mo_drought_48 : decode (yB Y_Mo_drought) 48 = .ok (.iconst 0, 1) := by decide +kernel
theorem d_Mo_drought_49 : decode (yB Y_Mo_drought) 49 = .ok (.istore_n 3, 1) := by decide +kernel
theorem d_Mo_drought_50 : decode (yB Y_Mo_drought) 50 = .ok (.iload_n 3, 1) := by decide +kernel
theorem d_Mo_drought_51 : decode (yB Y_Mo_drought) 51 = .ok (.iload_n 2, 1) := by decide +kernel
theorem d_Mo_drought_52 : decode (yB Y_Mo_drought) 52 = .ok (.if_icmp .le 7, 3) := by decide +kernel
theorem d_Mo_drought_55 : decode (yB Y_Mo_drought) 55 = .ok (.iload_n 3, 1) := by decide +kernel
theorem d_Mo_drought_56 : decode (yB Y_Mo_drought) 56 = .ok (.goto 4, 3) := by decide +kernel
theorem d_Mo_drought_59 : decode (yB Y_Mo_drought) 59 = .ok (.iload_n 2, 1) := by decide +kernel
theorem d_Mo_drought_60 : decode (yB Y_Mo_drought) 60 = .ok (.istore_n 2, 1) := by decide +kernel
theorem d_Mo_drought_61 : decode (yB Y_Mo_drought) 61 = .ok (.aload_n 0, 1) := by decide +kernel
theorem d_Mo_drought_62 : decode (yB Y_Mo_drought) 62 = .ok (.invokevirtual 463, 3) := by decide +kernel
theorem d_Mo_drought_65 : decode (yB Y_Mo_drought) 65 = .ok (.iinc 4 1, 3) := by decide +kernel
theorem d_Mo_drought_68 : decode (yB Y_Mo_drought) 68 = .ok (.goto (-41), 3) := by decide +kernel
theorem d_Mo_drought_71 : decode (yB Y_Mo_drought) 71 = .ok (.aload_n 0, 1) := by decide +kernel
theorem d_Mo_drought_72 : decode (yB Y_Mo_drought) 72 = .ok (.bipush 16, 2) := by decide +kernel
theorem d_Mo_drought_74 : decode (yB Y_Mo_drought) 74 = .ok (.invokevirtual 173, 3) := by decide +kernel
theorem d_Mo_drought_77 : decode (yB Y_Mo_drought) 77 = .ok (.iload_n 2, 1) := by decide +kernel
theorem d_Mo_drought_78 : decode (yB Y_Mo_drought) 78 = .ok (.ireturn, 1) := by decide +kernel
def F_Mo_drought_b60 (n : Nat) (E : zE) (S : zS) (r27 : Nat × Int32 × Int32 × Int32 × Int32 × zH → Option (Int32 × zH)) (a0 : Nat) (x1 : Int32) (x3 : Int32) (x4 : Int32) (s0 : Int32) (M : zH) : Option (Int32 × zH) :=
  (zck S a0 11).bind fun u_1 =>
  (F_Mo_turnAll n E S a0 M).bind fun q_2 =>
  r27 (a0, x1, s0, x3, x4 + 1, q_2)
def F_Mo_drought_b49 (n : Nat) (E : zE) (S : zS) (r27 : Nat × Int32 × Int32 × Int32 × Int32 × zH → Option (Int32 × zH)) (a0 : Nat) (x1 : Int32) (x2 : Int32) (x4 : Int32) (s0 : Int32) (M : zH) : Option (Int32 × zH) :=
  if s0 ≤ x2 then
    F_Mo_drought_b60 n E S r27 a0 x1 s0 x4 x2 M
  else
    F_Mo_drought_b60 n E S r27 a0 x1 s0 x4 s0 M
def F_Mo_drought_L27 (n : Nat) (E : zE) (S : zS) (r27 : Nat × Int32 × Int32 × Int32 × Int32 × zH → Option (Int32 × zH)) (a0 : Nat) (x1 : Int32) (x2 : Int32) (x3 : Int32) (x4 : Int32) (M : zH) : Option (Int32 × zH) :=
  if 60 ≤ x4 then
    (zck S a0 11).bind fun u_5 =>
    (F_Mo_putBack n E S a0 16 M).bind fun q_6 =>
    some (x2, q_6)
  else
    (zck S a0 11).bind fun u_7 =>
    (F_Mo_flowOn n E S a0 x1 M).bind fun q_8 =>
    if q_8.1 = 0 then
      F_Mo_drought_b49 n E S r27 a0 x1 x2 x4 (x3 + 1) q_8.2
    else
      F_Mo_drought_b49 n E S r27 a0 x1 x2 x4 0 q_8.2
def F_Mo_drought_b27 (n : Nat) (E : zE) (S : zS) : Nat × Int32 × Int32 × Int32 × Int32 × zH → Option (Int32 × zH) := zfix (fun r27 s => F_Mo_drought_L27 n E S r27 s.1 s.2.1 s.2.2.1 s.2.2.2.1 s.2.2.2.2.1 s.2.2.2.2.2) n
def F_Mo_drought (n : Nat) (E : zE) (S : zS) (a0 : Nat) (x1 : Int32) (M : zH) : Option (Int32 × zH) :=
  (zpI S M a0 11 0 0).bind fun m_10 =>
  (F_Mo_isField n E S x1 m_10).bind fun q_11 =>
  if q_11.1 = true then
    (zck S a0 11).bind fun u_13 =>
    (F_Mo_keepAll n E S a0 16 q_11.2).bind fun q_14 =>
    F_Mo_drought_b27 n E S (a0, x1, 0, 0, 0, q_14)
  else
    some ((-1), q_11.2)
theorem K_Mo_drought_b60 (n : Nat) (E : zE) (S : zS) (r27 : Nat × Int32 × Int32 × Int32 × Int32 × zH → Option (Int32 × zH)) (a0 : Nat) (x1 : Int32) (x3 : Int32) (x4 : Int32) (s0 : Int32) (M : zH) (r : Int32) (M' : zH) (hr27 : ∀ (a0 : Nat) (x1 : Int32) (x2 : Int32) (x3 : Int32) (x4 : Int32) (M : zH), r27 (a0, x1, x2, x3, x4, M) = some (r, M') → zG E Y_Mo_drought (some (.int r), S, M') 27 [(0, .ref a0), (1, .int x1), (2, .int x2), (3, .int x3), (4, .int x4)] [] S M 0 0) (h : F_Mo_drought_b60 n E S r27 a0 x1 x3 x4 s0 M = some (r, M')) : zG E Y_Mo_drought (some (.int r), S, M') 60 [(0, .ref a0), (1, .int x1), (3, .int x3), (4, .int x4)] [.int s0] S M 0 0 := by
  unfold F_Mo_drought_b60 at h
  refine zi_istore_n [(2, .int s0), (0, .ref a0), (1, .int x1), (3, .int x3), (4, .int x4)] d_Mo_drought_60 (by decide) rfl ?_
  refine zi_aload_n 1 d_Mo_drought_61 rfl ?_
  obtain ⟨u_1, eu_1, h⟩ := zbind h
  obtain ⟨q_2, eq_2, h⟩ := zbind h
  refine zo_virt (k' := 0) (n' := 0) 65 [] [] [] zkd_11 (zck_s eu_1) (C_Mo_turnAll n E S a0 M q_2 eq_2) d_Mo_drought_62 tw_1746 tw_1743 tw_1745 ts_87 tw_13 dd_Mo_turnAll ⟨Nat.le_of_ble_eq_true rfl, Nat.le_of_ble_eq_true rfl, Nat.le_of_ble_eq_true rfl, Nat.le_of_ble_eq_true rfl⟩ (Nat.le_of_ble_eq_true rfl) rfl rfl rfl rfl ?_
  refine zi_iinc 4 (x4 + 1) [(4, .int (x4 + 1)), (2, .int s0), (0, .ref a0), (1, .int x1), (3, .int x3)] d_Mo_drought_65 rfl rfl (by decide) rfl ?_
  refine zi_goto (tgt := 27) d_Mo_drought_68 rfl ?_
  refine zi_lo [(0, .ref a0), (1, .int x1), (2, .int s0), (3, .int x3), (4, .int (x4 + 1))] [2, 3, 1, 4, 0] rfl ?_
  exact hr27 a0 x1 s0 x3 (x4 + 1) q_2 h
theorem K_Mo_drought_b49 (n : Nat) (E : zE) (S : zS) (r27 : Nat × Int32 × Int32 × Int32 × Int32 × zH → Option (Int32 × zH)) (a0 : Nat) (x1 : Int32) (x2 : Int32) (x4 : Int32) (s0 : Int32) (M : zH) (r : Int32) (M' : zH) (hr27 : ∀ (a0 : Nat) (x1 : Int32) (x2 : Int32) (x3 : Int32) (x4 : Int32) (M : zH), r27 (a0, x1, x2, x3, x4, M) = some (r, M') → zG E Y_Mo_drought (some (.int r), S, M') 27 [(0, .ref a0), (1, .int x1), (2, .int x2), (3, .int x3), (4, .int x4)] [] S M 0 0) (h : F_Mo_drought_b49 n E S r27 a0 x1 x2 x4 s0 M = some (r, M')) : zG E Y_Mo_drought (some (.int r), S, M') 49 [(0, .ref a0), (1, .int x1), (2, .int x2), (4, .int x4)] [.int s0] S M 0 0 := by
  unfold F_Mo_drought_b49 at h
  refine zi_istore_n [(3, .int s0), (0, .ref a0), (1, .int x1), (2, .int x2), (4, .int x4)] d_Mo_drought_49 (by decide) rfl ?_
  refine zi_iload_n 0 d_Mo_drought_50 rfl ?_
  refine zi_iload_n 3 d_Mo_drought_51 rfl ?_
  refine zi_icmp_le (tgt := 59) d_Mo_drought_52 rfl (fun c_3 => ?_) (fun c_3 => ?_)
  · rw [if_pos c_3] at h
    refine zi_iload_n 3 d_Mo_drought_59 rfl ?_
    refine zi_lo [(0, .ref a0), (1, .int x1), (3, .int s0), (4, .int x4)] [1, 2, 0, 4] rfl ?_
    exact K_Mo_drought_b60 n E S r27 a0 x1 s0 x4 x2 M r M' hr27 h
  · rw [if_neg c_3] at h
    refine zi_iload_n 0 d_Mo_drought_55 rfl ?_
    refine zi_goto (tgt := 60) d_Mo_drought_56 rfl ?_
    refine zi_lo [(0, .ref a0), (1, .int x1), (3, .int s0), (4, .int x4)] [1, 2, 0, 4] rfl ?_
    exact K_Mo_drought_b60 n E S r27 a0 x1 s0 x4 s0 M r M' hr27 h
theorem K_Mo_drought_L27 (n : Nat) (E : zE) (S : zS) (r27 : Nat × Int32 × Int32 × Int32 × Int32 × zH → Option (Int32 × zH)) (a0 : Nat) (x1 : Int32) (x2 : Int32) (x3 : Int32) (x4 : Int32) (M : zH) (r : Int32) (M' : zH) (hr27 : ∀ (a0 : Nat) (x1 : Int32) (x2 : Int32) (x3 : Int32) (x4 : Int32) (M : zH), r27 (a0, x1, x2, x3, x4, M) = some (r, M') → zG E Y_Mo_drought (some (.int r), S, M') 27 [(0, .ref a0), (1, .int x1), (2, .int x2), (3, .int x3), (4, .int x4)] [] S M 0 0) (h : F_Mo_drought_L27 n E S r27 a0 x1 x2 x3 x4 M = some (r, M')) : zG E Y_Mo_drought (some (.int r), S, M') 27 [(0, .ref a0), (1, .int x1), (2, .int x2), (3, .int x3), (4, .int x4)] [] S M 0 0 := by
  unfold F_Mo_drought_L27 at h
  refine zi_iload 4 d_Mo_drought_27 rfl ?_
  refine zi_bipush 60 d_Mo_drought_29 rfl ?_
  refine zi_icmp_ge (tgt := 71) d_Mo_drought_31 rfl (fun c_4 => ?_) (fun c_4 => ?_)
  · rw [if_pos c_4] at h
    refine zi_aload_n 0 d_Mo_drought_71 rfl ?_
    refine zi_bipush 16 d_Mo_drought_72 rfl ?_
    obtain ⟨u_5, eu_5, h⟩ := zbind h
    obtain ⟨q_6, eq_6, h⟩ := zbind h
    refine zo_virt (k' := 0) (n' := 0) 77 [.int 16] [] [] zkd_11 (zck_s eu_5) (C_Mo_putBack n E S a0 16 M q_6 eq_6) d_Mo_drought_74 tw_1414 tw_1411 tw_1413 ts_37 tw_13 dd_Mo_putBack ⟨Nat.le_of_ble_eq_true rfl, Nat.le_of_ble_eq_true rfl, Nat.le_of_ble_eq_true rfl, Nat.le_of_ble_eq_true rfl⟩ (Nat.le_of_ble_eq_true rfl) rfl rfl rfl rfl ?_
    refine zi_iload_n 2 d_Mo_drought_77 rfl ?_
    cases h
    exact zo_ret d_Mo_drought_78 (Nat.le_of_ble_eq_true rfl) (Nat.le_of_ble_eq_true rfl) rfl
  · rw [if_neg c_4] at h
    refine zi_aload_n 0 d_Mo_drought_34 rfl ?_
    refine zi_iload_n 1 d_Mo_drought_35 rfl ?_
    obtain ⟨u_7, eu_7, h⟩ := zbind h
    obtain ⟨q_8, eq_8, h⟩ := zbind h
    refine zo_virt (k' := 0) (n' := 0) 39 [.int x1] [] [.int q_8.1] zkd_11 (zck_s eu_7) (C_Mo_flowOn n E S a0 x1 M q_8.1 q_8.2 eq_8) d_Mo_drought_36 tw_1525 tw_1522 tw_1524 ts_51 tw_13 dd_Mo_flowOn ⟨Nat.le_of_ble_eq_true rfl, Nat.le_of_ble_eq_true rfl, Nat.le_of_ble_eq_true rfl, Nat.le_of_ble_eq_true rfl⟩ (Nat.le_of_ble_eq_true rfl) rfl rfl rfl rfl ?_
    refine zi_if_ne (tgt := 48) d_Mo_drought_39 rfl (fun c_9 => ?_) (fun c_9 => ?_)
    · rw [if_neg c_9] at h
      refine zi_iconst 0 d_Mo_drought_48 rfl ?_
      refine zi_lo [(0, .ref a0), (1, .int x1), (2, .int x2), (4, .int x4)] [0, 1, 2, 4] rfl ?_
      exact K_Mo_drought_b49 n E S r27 a0 x1 x2 x4 0 q_8.2 r M' hr27 h
    · rw [if_pos c_9] at h
      refine zi_iload_n 3 d_Mo_drought_42 rfl ?_
      refine zi_iconst 1 d_Mo_drought_43 rfl ?_
      refine zi_iadd d_Mo_drought_44 ?_
      refine zi_goto (tgt := 49) d_Mo_drought_45 rfl ?_
      refine zi_lo [(0, .ref a0), (1, .int x1), (2, .int x2), (4, .int x4)] [0, 1, 2, 4] rfl ?_
      exact K_Mo_drought_b49 n E S r27 a0 x1 x2 x4 (x3 + 1) q_8.2 r M' hr27 h
theorem K_Mo_drought_b27 (n : Nat) (E : zE) (S : zS) (a0 : Nat) (x1 : Int32) (x2 : Int32) (x3 : Int32) (x4 : Int32) (M : zH) (r : Int32) (M' : zH)  (h : F_Mo_drought_b27 n E S (a0, x1, x2, x3, x4, M) = some (r, M')) : zG E Y_Mo_drought (some (.int r), S, M') 27 [(0, .ref a0), (1, .int x1), (2, .int x2), (3, .int x3), (4, .int x4)] [] S M 0 0 := by
  have key : ∀ (k : Nat) (a0 : Nat) (x1 : Int32) (x2 : Int32) (x3 : Int32) (x4 : Int32) (M : zH), zfix (fun r27 s => F_Mo_drought_L27 n E S r27 s.1 s.2.1 s.2.2.1 s.2.2.2.1 s.2.2.2.2.1 s.2.2.2.2.2) k (a0, x1, x2, x3, x4, M) = some (r, M') → zG E Y_Mo_drought (some (.int r), S, M') 27 [(0, .ref a0), (1, .int x1), (2, .int x2), (3, .int x3), (4, .int x4)] [] S M 0 0 := by
    intro k
    induction k with
    | zero => intro a0 x1 x2 x3 x4 M h; cases h
    | succ k ih => intro a0 x1 x2 x3 x4 M h; exact K_Mo_drought_L27 n E S _ a0 x1 x2 x3 x4 M r M'  (fun a0 x1 x2 x3 x4 M h => ih a0 x1 x2 x3 x4 M h) h
  exact key n a0 x1 x2 x3 x4 M h
theorem K_Mo_drought (n : Nat) (E : zE) (S : zS) (a0 : Nat) (x1 : Int32) (M : zH) (r : Int32) (M' : zH)  (h : F_Mo_drought n E S a0 x1 M = some (r, M')) : zG E Y_Mo_drought (some (.int r), S, M') 0 [(0, .ref a0), (1, .int x1)] [] S M 0 0 := by
  unfold F_Mo_drought at h
  refine zi_aload_n 0 d_Mo_drought_0 rfl ?_
  refine zi_iconst 0 d_Mo_drought_1 rfl ?_
  obtain ⟨m_10, em_10, h⟩ := zbind h
  refine zo_putI 5 zkd_11 0 d_Mo_drought_2 em_10 rfl rfl rfl tw_1231 rfl ?_
  refine zi_iload_n 1 d_Mo_drought_5 rfl ?_
  obtain ⟨q_11, eq_11, h⟩ := zbind h
  refine zo_stat (k' := 0) (n' := 0) 9 [.int x1] [] [.int (bI q_11.1)] (C_Mo_isField n E S x1 m_10 q_11.1 q_11.2 eq_11) d_Mo_drought_6 tw_1440 tw_1438 tw_1439 tw_13 dd_Mo_isField ⟨Nat.le_of_ble_eq_true rfl, Nat.le_of_ble_eq_true rfl, Nat.le_of_ble_eq_true rfl, Nat.le_of_ble_eq_true rfl⟩ (Nat.le_of_ble_eq_true rfl) rfl rfl rfl rfl ?_
  refine zo_ifneB d_Mo_drought_9 rfl 12 rfl (fun c_12 => ?_) (fun c_12 => ?_)
  · rw [if_pos c_12] at h
    refine zi_aload_n 0 d_Mo_drought_14 rfl ?_
    refine zi_bipush 16 d_Mo_drought_15 rfl ?_
    obtain ⟨u_13, eu_13, h⟩ := zbind h
    obtain ⟨q_14, eq_14, h⟩ := zbind h
    refine zo_virt (k' := 0) (n' := 0) 20 [.int 16] [] [] zkd_11 (zck_s eu_13) (C_Mo_keepAll n E S a0 16 q_11.2 q_14 eq_14) d_Mo_drought_17 tw_1706 tw_1703 tw_1705 ts_80 tw_13 dd_Mo_keepAll ⟨Nat.le_of_ble_eq_true rfl, Nat.le_of_ble_eq_true rfl, Nat.le_of_ble_eq_true rfl, Nat.le_of_ble_eq_true rfl⟩ (Nat.le_of_ble_eq_true rfl) rfl rfl rfl rfl ?_
    refine zi_iconst 0 d_Mo_drought_20 rfl ?_
    refine zi_istore_n [(2, .int 0), (0, .ref a0), (1, .int x1)] d_Mo_drought_21 (by decide) rfl ?_
    refine zi_iconst 0 d_Mo_drought_22 rfl ?_
    refine zi_istore_n [(3, .int 0), (2, .int 0), (0, .ref a0), (1, .int x1)] d_Mo_drought_23 (by decide) rfl ?_
    refine zi_iconst 0 d_Mo_drought_24 rfl ?_
    refine zi_istore [(4, .int 0), (3, .int 0), (2, .int 0), (0, .ref a0), (1, .int x1)] d_Mo_drought_25 (by decide) rfl ?_
    refine zi_lo [(0, .ref a0), (1, .int x1), (2, .int 0), (3, .int 0), (4, .int 0)] [3, 4, 2, 1, 0] rfl ?_
    exact K_Mo_drought_b27 n E S a0 x1 0 0 0 q_14 r M'  h
  · rw [if_neg c_12] at h
    refine zi_iconst (-1) d_Mo_drought_12 rfl ?_
    cases h
    exact zo_ret d_Mo_drought_13 (Nat.le_of_ble_eq_true rfl) (Nat.le_of_ble_eq_true rfl) rfl
theorem C_Mo_drought (n : Nat) (E : zE) (S : zS) (a0 : Nat) (x1 : Int32) (M : zH) (r : Int32) (M' : zH) (h : F_Mo_drought n E S a0 x1 M = some (r, M')) : zC E Y_Mo_drought [.ref a0, .int x1] S M (some (.int r), S, M') :=
  zC.of (Or.inl (show plainName "NightColanderModel" = true by decide)) (Nat.le_of_ble_eq_true rfl) (trivial) (K_Mo_drought n E S a0 x1 M r M' h)
theorem d_Mo_luck_0 : decode (yB Y_Mo_luck) 0 = .ok (.aload_n 0, 1) := by decide +kernel
theorem d_Mo_luck_1 : decode (yB Y_Mo_luck) 1 = .ok (.iconst 0, 1) := by decide +kernel
theorem d_Mo_luck_2 : decode (yB Y_Mo_luck) 2 = .ok (.putfield 156, 3) := by decide +kernel
theorem d_Mo_luck_5 : decode (yB Y_Mo_luck) 5 = .ok (.iload_n 1, 1) := by decide +kernel
theorem d_Mo_luck_6 : decode (yB Y_Mo_luck) 6 = .ok (.invokestatic 194, 3) := by decide +kernel
theorem d_Mo_luck_9 : decode (yB Y_Mo_luck) 9 = .ok (.ifCond .ne 5, 3) := by decide +kernel
theorem d_Mo_luck_12 : decode (yB Y_Mo_luck) 12 = .ok (.iconst (-1), 1) := by decide +kernel
theorem d_Mo_luck_13 : decode (yB Y_Mo_luck) 13 = .ok (.ireturn, 1) := by decide +kernel
theorem d_Mo_luck_14 : decode (yB Y_Mo_luck) 14 = .ok (.aload_n 0, 1) := by decide +kernel
theorem d_Mo_luck_15 : decode (yB Y_Mo_luck) 15 = .ok (.invokevirtual 457, 3) := by decide +kernel
theorem d_Mo_luck_18 : decode (yB Y_Mo_luck) 18 = .ok (.iconst 0, 1) := by decide +kernel
theorem d_Mo_luck_19 : decode (yB Y_Mo_luck) 19 = .ok (.istore_n 2, 1) := by decide +kernel
theorem d_Mo_luck_20 : decode (yB Y_Mo_luck) 20 = .ok (.iconst 0, 1) := by decide +kernel
theorem d_Mo_luck_21 : decode (yB Y_Mo_luck) 21 = .ok (.istore_n 3, 1) := by decide +kernel
theorem d_Mo_luck_22 : decode (yB Y_Mo_luck) 22 = .ok (.iload_n 3, 1) := by decide +kernel
theorem d_Mo_luck_23 : decode (yB Y_Mo_luck) 23 = .ok (.bipush 8, 2) := by decide +kernel
theorem d_Mo_luck_25 : decode (yB Y_Mo_luck) 25 = .ok (.if_icmp .ge 32, 3) := by decide +kernel
theorem d_Mo_luck_28 : decode (yB Y_Mo_luck) 28 = .ok (.iload_n 2, 1) := by decide +kernel
theorem d_Mo_luck_29 : decode (yB Y_Mo_luck) 29 = .ok (.aload_n 0, 1) := by decide +kernel
theorem d_Mo_luck_30 : decode (yB Y_Mo_luck) 30 = .ok (.getfield 112, 3) := by decide +kernel
theorem d_Mo_luck_33 : decode (yB Y_Mo_luck) 33 = .ok (.iload_n 3, 1) := by decide +kernel
theorem d_Mo_luck_34 : decode (yB Y_Mo_luck) 34 = .ok (.iaload, 1) := by decide +kernel
theorem d_Mo_luck_35 : decode (yB Y_Mo_luck) 35 = .ok (.aload_n 0, 1) := by decide +kernel
theorem d_Mo_luck_36 : decode (yB Y_Mo_luck) 36 = .ok (.getfield 112, 3) := by decide +kernel
theorem d_Mo_luck_39 : decode (yB Y_Mo_luck) 39 = .ok (.iload_n 1, 1) := by decide +kernel
theorem d_Mo_luck_40 : decode (yB Y_Mo_luck) 40 = .ok (.iaload, 1) := by decide +kernel
theorem d_Mo_luck_41 : decode (yB Y_Mo_luck) 41 = .ok (.if_icmp .ge 7, 3) := by decide +kernel
theorem d_Mo_luck_44 : decode (yB Y_Mo_luck) 44 = .ok (.iconst 1, 1) := by decide +kernel
theorem d_Mo_luck_45 : decode (yB Y_Mo_luck) 45 = .ok (.goto 4, 3) := by decide +kernel
theorem d_Mo_luck_48 : decode (yB Y_Mo_luck) 48 = .ok (.iconst 0, 1) := by decide +kernel
theorem d_Mo_luck_49 : decode (yB Y_Mo_luck) 49 = .ok (.iadd, 1) := by decide +kernel
theorem d_Mo_luck_50 : decode (yB Y_Mo_luck) 50 = .ok (.istore_n 2, 1) := by decide +kernel
theorem d_Mo_luck_51 : decode (yB Y_Mo_luck) 51 = .ok (.iinc 3 1, 3) := by decide +kernel
theorem d_Mo_luck_54 : decode (yB Y_Mo_luck) 54 = .ok (.goto (-32), 3) := by decide +kernel
theorem d_Mo_luck_57 : decode (yB Y_Mo_luck) 57 = .ok (.iload_n 2, 1) := by decide +kernel
theorem d_Mo_luck_58 : decode (yB Y_Mo_luck) 58 = .ok (.ireturn, 1) := by decide +kernel
def F_Mo_luck_b49 (n : Nat) (E : zE) (S : zS) (r22 : Nat × Int32 × Int32 × Int32 × zH → Option (Int32 × zH)) (a0 : Nat) (x1 : Int32) (x3 : Int32) (s0 : Int32) (s1 : Int32) (M : zH) : Option (Int32 × zH) :=
  r22 (a0, x1, s1 + s0, x3 + 1, M)
def F_Mo_luck_L22 (n : Nat) (E : zE) (S : zS) (r22 : Nat × Int32 × Int32 × Int32 × zH → Option (Int32 × zH)) (a0 : Nat) (x1 : Int32) (x2 : Int32) (x3 : Int32) (M : zH) : Option (Int32 × zH) :=
  if 8 ≤ x3 then
    some (x2, M)
  else
    (zgR S a0 11 41).bind fun b_2 =>
    (zldI S M b_2 x3).bind fun v_3 =>
    (zldI S M b_2 x1).bind fun v_4 =>
    if v_4 ≤ v_3 then
      F_Mo_luck_b49 n E S r22 a0 x1 x3 0 x2 M
    else
      F_Mo_luck_b49 n E S r22 a0 x1 x3 1 x2 M
def F_Mo_luck_b22 (n : Nat) (E : zE) (S : zS) : Nat × Int32 × Int32 × Int32 × zH → Option (Int32 × zH) := zfix (fun r22 s => F_Mo_luck_L22 n E S r22 s.1 s.2.1 s.2.2.1 s.2.2.2.1 s.2.2.2.2) n
def F_Mo_luck (n : Nat) (E : zE) (S : zS) (a0 : Nat) (x1 : Int32) (M : zH) : Option (Int32 × zH) :=
  (zpI S M a0 11 0 0).bind fun m_6 =>
  (F_Mo_isField n E S x1 m_6).bind fun q_7 =>
  if q_7.1 = true then
    (zck S a0 11).bind fun u_9 =>
    (F_Mo_layFlow n E S a0 q_7.2).bind fun q_10 =>
    F_Mo_luck_b22 n E S (a0, x1, 0, 0, q_10)
  else
    some ((-1), q_7.2)
theorem K_Mo_luck_b49 (n : Nat) (E : zE) (S : zS) (r22 : Nat × Int32 × Int32 × Int32 × zH → Option (Int32 × zH)) (a0 : Nat) (x1 : Int32) (x3 : Int32) (s0 : Int32) (s1 : Int32) (M : zH) (r : Int32) (M' : zH) (hr22 : ∀ (a0 : Nat) (x1 : Int32) (x2 : Int32) (x3 : Int32) (M : zH), r22 (a0, x1, x2, x3, M) = some (r, M') → zG E Y_Mo_luck (some (.int r), S, M') 22 [(0, .ref a0), (1, .int x1), (2, .int x2), (3, .int x3)] [] S M 0 0) (h : F_Mo_luck_b49 n E S r22 a0 x1 x3 s0 s1 M = some (r, M')) : zG E Y_Mo_luck (some (.int r), S, M') 49 [(0, .ref a0), (1, .int x1), (3, .int x3)] [.int s0, .int s1] S M 0 0 := by
  unfold F_Mo_luck_b49 at h
  refine zi_iadd d_Mo_luck_49 ?_
  refine zi_istore_n [(2, .int (s1 + s0)), (0, .ref a0), (1, .int x1), (3, .int x3)] d_Mo_luck_50 (by decide) rfl ?_
  refine zi_iinc 3 (x3 + 1) [(3, .int (x3 + 1)), (2, .int (s1 + s0)), (0, .ref a0), (1, .int x1)] d_Mo_luck_51 rfl rfl (by decide) rfl ?_
  refine zi_goto (tgt := 22) d_Mo_luck_54 rfl ?_
  refine zi_lo [(0, .ref a0), (1, .int x1), (2, .int (s1 + s0)), (3, .int (x3 + 1))] [2, 3, 1, 0] rfl ?_
  exact hr22 a0 x1 (s1 + s0) (x3 + 1) M h
theorem K_Mo_luck_L22 (n : Nat) (E : zE) (S : zS) (r22 : Nat × Int32 × Int32 × Int32 × zH → Option (Int32 × zH)) (a0 : Nat) (x1 : Int32) (x2 : Int32) (x3 : Int32) (M : zH) (r : Int32) (M' : zH) (hr22 : ∀ (a0 : Nat) (x1 : Int32) (x2 : Int32) (x3 : Int32) (M : zH), r22 (a0, x1, x2, x3, M) = some (r, M') → zG E Y_Mo_luck (some (.int r), S, M') 22 [(0, .ref a0), (1, .int x1), (2, .int x2), (3, .int x3)] [] S M 0 0) (h : F_Mo_luck_L22 n E S r22 a0 x1 x2 x3 M = some (r, M')) : zG E Y_Mo_luck (some (.int r), S, M') 22 [(0, .ref a0), (1, .int x1), (2, .int x2), (3, .int x3)] [] S M 0 0 := by
  unfold F_Mo_luck_L22 at h
  refine zi_iload_n 3 d_Mo_luck_22 rfl ?_
  refine zi_bipush 8 d_Mo_luck_23 rfl ?_
  refine zi_icmp_ge (tgt := 57) d_Mo_luck_25 rfl (fun c_1 => ?_) (fun c_1 => ?_)
  · rw [if_pos c_1] at h
    refine zi_iload_n 2 d_Mo_luck_57 rfl ?_
    cases h
    exact zo_ret d_Mo_luck_58 (Nat.le_of_ble_eq_true rfl) (Nat.le_of_ble_eq_true rfl) rfl
  · rw [if_neg c_1] at h
    refine zi_iload_n 2 d_Mo_luck_28 rfl ?_
    refine zi_aload_n 0 d_Mo_luck_29 rfl ?_
    obtain ⟨b_2, eb_2, h⟩ := zbind h
    refine zo_getR 33 zkd_11 41 d_Mo_luck_30 eb_2 rfl tw_1272 rfl ?_
    refine zi_iload_n 3 d_Mo_luck_33 rfl ?_
    obtain ⟨v_3, ev_3, h⟩ := zbind h
    refine zo_iald 35 d_Mo_luck_34 ev_3 rfl ?_
    refine zi_aload_n 0 d_Mo_luck_35 rfl ?_
    refine zo_getR 39 zkd_11 41 d_Mo_luck_36 eb_2 rfl tw_1272 rfl ?_
    refine zi_iload_n 1 d_Mo_luck_39 rfl ?_
    obtain ⟨v_4, ev_4, h⟩ := zbind h
    refine zo_iald 41 d_Mo_luck_40 ev_4 rfl ?_
    refine zi_icmp_ge (tgt := 48) d_Mo_luck_41 rfl (fun c_5 => ?_) (fun c_5 => ?_)
    · rw [if_pos c_5] at h
      refine zi_iconst 0 d_Mo_luck_48 rfl ?_
      refine zi_lo [(0, .ref a0), (1, .int x1), (3, .int x3)] [0, 1, 3] rfl ?_
      exact K_Mo_luck_b49 n E S r22 a0 x1 x3 0 x2 M r M' hr22 h
    · rw [if_neg c_5] at h
      refine zi_iconst 1 d_Mo_luck_44 rfl ?_
      refine zi_goto (tgt := 49) d_Mo_luck_45 rfl ?_
      refine zi_lo [(0, .ref a0), (1, .int x1), (3, .int x3)] [0, 1, 3] rfl ?_
      exact K_Mo_luck_b49 n E S r22 a0 x1 x3 1 x2 M r M' hr22 h
theorem K_Mo_luck_b22 (n : Nat) (E : zE) (S : zS) (a0 : Nat) (x1 : Int32) (x2 : Int32) (x3 : Int32) (M : zH) (r : Int32) (M' : zH)  (h : F_Mo_luck_b22 n E S (a0, x1, x2, x3, M) = some (r, M')) : zG E Y_Mo_luck (some (.int r), S, M') 22 [(0, .ref a0), (1, .int x1), (2, .int x2), (3, .int x3)] [] S M 0 0 := by
  have key : ∀ (k : Nat) (a0 : Nat) (x1 : Int32) (x2 : Int32) (x3 : Int32) (M : zH), zfix (fun r22 s => F_Mo_luck_L22 n E S r22 s.1 s.2.1 s.2.2.1 s.2.2.2.1 s.2.2.2.2) k (a0, x1, x2, x3, M) = some (r, M') → zG E Y_Mo_luck (some (.int r), S, M') 22 [(0, .ref a0), (1, .int x1), (2, .int x2), (3, .int x3)] [] S M 0 0 := by
    intro k
    induction k with
    | zero => intro a0 x1 x2 x3 M h; cases h
    | succ k ih => intro a0 x1 x2 x3 M h; exact K_Mo_luck_L22 n E S _ a0 x1 x2 x3 M r M'  (fun a0 x1 x2 x3 M h => ih a0 x1 x2 x3 M h) h
  exact key n a0 x1 x2 x3 M h
theorem K_Mo_luck (n : Nat) (E : zE) (S : zS) (a0 : Nat) (x1 : Int32) (M : zH) (r : Int32) (M' : zH)  (h : F_Mo_luck n E S a0 x1 M = some (r, M')) : zG E Y_Mo_luck (some (.int r), S, M') 0 [(0, .ref a0), (1, .int x1)] [] S M 0 0 := by
  unfold F_Mo_luck at h
  refine zi_aload_n 0 d_Mo_luck_0 rfl ?_
  refine zi_iconst 0 d_Mo_luck_1 rfl ?_
  obtain ⟨m_6, em_6, h⟩ := zbind h
  refine zo_putI 5 zkd_11 0 d_Mo_luck_2 em_6 rfl rfl rfl tw_1231 rfl ?_
  refine zi_iload_n 1 d_Mo_luck_5 rfl ?_
  obtain ⟨q_7, eq_7, h⟩ := zbind h
  refine zo_stat (k' := 0) (n' := 0) 9 [.int x1] [] [.int (bI q_7.1)] (C_Mo_isField n E S x1 m_6 q_7.1 q_7.2 eq_7) d_Mo_luck_6 tw_1440 tw_1438 tw_1439 tw_13 dd_Mo_isField ⟨Nat.le_of_ble_eq_true rfl, Nat.le_of_ble_eq_true rfl, Nat.le_of_ble_eq_true rfl, Nat.le_of_ble_eq_true rfl⟩ (Nat.le_of_ble_eq_true rfl) rfl rfl rfl rfl ?_
  refine zo_ifneB d_Mo_luck_9 rfl 12 rfl (fun c_8 => ?_) (fun c_8 => ?_)
  · rw [if_pos c_8] at h
    refine zi_aload_n 0 d_Mo_luck_14 rfl ?_
    obtain ⟨u_9, eu_9, h⟩ := zbind h
    obtain ⟨q_10, eq_10, h⟩ := zbind h
    refine zo_virt (k' := 0) (n' := 0) 18 [] [] [] zkd_11 (zck_s eu_9) (C_Mo_layFlow n E S a0 q_7.2 q_10 eq_10) d_Mo_luck_15 tw_1738 tw_1735 tw_1737 ts_85 tw_13 dd_Mo_layFlow ⟨Nat.le_of_ble_eq_true rfl, Nat.le_of_ble_eq_true rfl, Nat.le_of_ble_eq_true rfl, Nat.le_of_ble_eq_true rfl⟩ (Nat.le_of_ble_eq_true rfl) rfl rfl rfl rfl ?_
    refine zi_iconst 0 d_Mo_luck_18 rfl ?_
    refine zi_istore_n [(2, .int 0), (0, .ref a0), (1, .int x1)] d_Mo_luck_19 (by decide) rfl ?_
    refine zi_iconst 0 d_Mo_luck_20 rfl ?_
    refine zi_istore_n [(3, .int 0), (2, .int 0), (0, .ref a0), (1, .int x1)] d_Mo_luck_21 (by decide) rfl ?_
    refine zi_lo [(0, .ref a0), (1, .int x1), (2, .int 0), (3, .int 0)] [2, 3, 1, 0] rfl ?_
    exact K_Mo_luck_b22 n E S a0 x1 0 0 q_10 r M'  h
  · rw [if_neg c_8] at h
    refine zi_iconst (-1) d_Mo_luck_12 rfl ?_
    cases h
    exact zo_ret d_Mo_luck_13 (Nat.le_of_ble_eq_true rfl) (Nat.le_of_ble_eq_true rfl) rfl
theorem C_Mo_luck (n : Nat) (E : zE) (S : zS) (a0 : Nat) (x1 : Int32) (M : zH) (r : Int32) (M' : zH) (h : F_Mo_luck n E S a0 x1 M = some (r, M')) : zC E Y_Mo_luck [.ref a0, .int x1] S M (some (.int r), S, M') :=
  zC.of (Or.inl (show plainName "NightColanderModel" = true by decide)) (Nat.le_of_ble_eq_true rfl) (trivial) (K_Mo_luck n E S a0 x1 M r M' h)
theorem d_Mo_together_0 : decode (yB Y_Mo_together) 0 = .ok (.aload_n 0, 1) := by decide +kernel
theorem d_Mo_together_1 : decode (yB Y_Mo_together) 1 = .ok (.iconst 0, 1) := by decide +kernel
theorem d_Mo_together_2 : decode (yB Y_Mo_together) 2 = .ok (.putfield 156, 3) := by decide +kernel
theorem d_Mo_together_5 : decode (yB Y_Mo_together) 5 = .ok (.iload_n 1, 1) := by decide +kernel
theorem d_Mo_together_6 : decode (yB Y_Mo_together) 6 = .ok (.invokestatic 190, 3) := by decide +kernel
theorem d_Mo_together_9 : decode (yB Y_Mo_together) 9 = .ok (.ifCond .eq 15, 3) := by decide +kernel
theorem d_Mo_together_12 : decode (yB Y_Mo_together) 12 = .ok (.iload_n 2, 1) := by decide +kernel
theorem d_Mo_together_13 : decode (yB Y_Mo_together) 13 = .ok (.invokestatic 190, 3) := by decide +kernel
theorem d_Mo_together_16 : decode (yB Y_Mo_together) 16 = .ok (.ifCond .eq 8, 3) := by decide +kernel
theorem d_Mo_together_19 : decode (yB Y_Mo_together) 19 = .ok (.iload_n 1, 1) := by decide +kernel
theorem d_Mo_together_20 : decode (yB Y_Mo_together) 20 = .ok (.iload_n 2, 1) := by decide +kernel
theorem d_Mo_together_21 : decode (yB Y_Mo_together) 21 = .ok (.if_icmp .ne 5, 3) := by decide +kernel
theorem d_Mo_together_24 : decode (yB Y_Mo_together) 24 = .ok (.iconst (-1), 1) := by decide +kernel
theorem d_Mo_together_25 : decode (yB Y_Mo_together) 25 = .ok (.ireturn, 1) := by decide +kernel
theorem d_Mo_together_26 : decode (yB Y_Mo_together) 26 = .ok (.iconst 1, 1) := by decide +kernel
theorem d_Mo_together_27 : decode (yB Y_Mo_together) 27 = .ok (.istore_n 3, 1) := by decide +kernel
theorem d_Mo_together_28 : decode (yB Y_Mo_together) 28 = .ok (.iload_n 3, 1) := by decide +kernel
theorem d_Mo_together_29 : decode (yB Y_Mo_together) 29 = .ok (.iload_n 1, 1) := by decide +kernel
theorem d_Mo_together_30 : decode (yB Y_Mo_together) 30 = .ok (.iload_n 2, 1) := by decide +kernel
theorem d_Mo_together_31 : decode (yB Y_Mo_together) 31 = .ok (.isub, 1) := by decide +kernel
theorem d_Mo_together_32 : decode (yB Y_Mo_together) 32 = .ok (.imul, 1) := by decide +kernel
theorem d_Mo_together_33 : decode (yB Y_Mo_together) 33 = .ok (.bipush 8, 2) := by decide +kernel
theorem d_Mo_together_35 : decode (yB Y_Mo_together) 35 = .ok (.irem, 1) := by decide +kernel
theorem d_Mo_together_36 : decode (yB Y_Mo_together) 36 = .ok (.ifCond .eq 9, 3) := by decide +kernel
theorem d_Mo_together_39 : decode (yB Y_Mo_together) 39 = .ok (.iinc 3 1, 3) := by decide +kernel
theorem d_Mo_together_42 : decode (yB Y_Mo_together) 42 = .ok (.goto (-14), 3) := by decide +kernel
theorem d_Mo_together_45 : decode (yB Y_Mo_together) 45 = .ok (.iload_n 3, 1) := by decide +kernel
theorem d_Mo_together_46 : decode (yB Y_Mo_together) 46 = .ok (.ireturn, 1) := by decide +kernel
def F_Mo_together_L28 (n : Nat) (E : zE) (S : zS) (r28 : Int32 × Int32 × Int32 × zH → Option (Int32 × zH)) (x1 : Int32) (x2 : Int32) (x3 : Int32) (M : zH) : Option (Int32 × zH) :=
  (zremI (x3 * (x1 - x2)) 8).bind fun v_1 =>
  if v_1 = 0 then
    some (x3, M)
  else
    r28 (x1, x2, x3 + 1, M)
def F_Mo_together_b28 (n : Nat) (E : zE) (S : zS) : Int32 × Int32 × Int32 × zH → Option (Int32 × zH) := zfix (fun r28 s => F_Mo_together_L28 n E S r28 s.1 s.2.1 s.2.2.1 s.2.2.2) n
def F_Mo_together (n : Nat) (E : zE) (S : zS) (a0 : Nat) (x1 : Int32) (x2 : Int32) (M : zH) : Option (Int32 × zH) :=
  (zpI S M a0 11 0 0).bind fun m_3 =>
  (F_Mo_isRing n E S x1 m_3).bind fun q_4 =>
  if q_4.1 = true then
    (F_Mo_isRing n E S x2 q_4.2).bind fun q_6 =>
    if q_6.1 = true then
      if x1 = x2 then
        some ((-1), q_6.2)
      else
        F_Mo_together_b28 n E S (x1, x2, 1, q_6.2)
    else
      some ((-1), q_6.2)
  else
    some ((-1), q_4.2)
theorem K_Mo_together_L28 (n : Nat) (E : zE) (S : zS) (r28 : Int32 × Int32 × Int32 × zH → Option (Int32 × zH)) (x1 : Int32) (x2 : Int32) (x3 : Int32) (M : zH) (r : Int32) (M' : zH) (hr28 : ∀ (x1 : Int32) (x2 : Int32) (x3 : Int32) (M : zH), r28 (x1, x2, x3, M) = some (r, M') → zG E Y_Mo_together (some (.int r), S, M') 28 [(1, .int x1), (2, .int x2), (3, .int x3)] [] S M 0 0) (h : F_Mo_together_L28 n E S r28 x1 x2 x3 M = some (r, M')) : zG E Y_Mo_together (some (.int r), S, M') 28 [(1, .int x1), (2, .int x2), (3, .int x3)] [] S M 0 0 := by
  unfold F_Mo_together_L28 at h
  refine zi_iload_n 2 d_Mo_together_28 rfl ?_
  refine zi_iload_n 0 d_Mo_together_29 rfl ?_
  refine zi_iload_n 1 d_Mo_together_30 rfl ?_
  refine zi_isub d_Mo_together_31 ?_
  refine zi_imul d_Mo_together_32 ?_
  refine zi_bipush 8 d_Mo_together_33 rfl ?_
  obtain ⟨v_1, ev_1, h⟩ := zbind h
  refine zo_irem 36 d_Mo_together_35 ev_1 rfl ?_
  refine zi_if_eq (tgt := 45) d_Mo_together_36 rfl (fun c_2 => ?_) (fun c_2 => ?_)
  · rw [if_pos c_2] at h
    refine zi_iload_n 2 d_Mo_together_45 rfl ?_
    cases h
    exact zo_ret d_Mo_together_46 (Nat.le_of_ble_eq_true rfl) (Nat.le_of_ble_eq_true rfl) rfl
  · rw [if_neg c_2] at h
    refine zi_iinc 2 (x3 + 1) [(3, .int (x3 + 1)), (1, .int x1), (2, .int x2)] d_Mo_together_39 rfl rfl (by decide) rfl ?_
    refine zi_goto (tgt := 28) d_Mo_together_42 rfl ?_
    refine zi_lo [(1, .int x1), (2, .int x2), (3, .int (x3 + 1))] [1, 2, 0] rfl ?_
    exact hr28 x1 x2 (x3 + 1) M h
theorem K_Mo_together_b28 (n : Nat) (E : zE) (S : zS) (x1 : Int32) (x2 : Int32) (x3 : Int32) (M : zH) (r : Int32) (M' : zH)  (h : F_Mo_together_b28 n E S (x1, x2, x3, M) = some (r, M')) : zG E Y_Mo_together (some (.int r), S, M') 28 [(1, .int x1), (2, .int x2), (3, .int x3)] [] S M 0 0 := by
  have key : ∀ (k : Nat) (x1 : Int32) (x2 : Int32) (x3 : Int32) (M : zH), zfix (fun r28 s => F_Mo_together_L28 n E S r28 s.1 s.2.1 s.2.2.1 s.2.2.2) k (x1, x2, x3, M) = some (r, M') → zG E Y_Mo_together (some (.int r), S, M') 28 [(1, .int x1), (2, .int x2), (3, .int x3)] [] S M 0 0 := by
    intro k
    induction k with
    | zero => intro x1 x2 x3 M h; cases h
    | succ k ih => intro x1 x2 x3 M h; exact K_Mo_together_L28 n E S _ x1 x2 x3 M r M'  (fun x1 x2 x3 M h => ih x1 x2 x3 M h) h
  exact key n x1 x2 x3 M h
theorem K_Mo_together (n : Nat) (E : zE) (S : zS) (a0 : Nat) (x1 : Int32) (x2 : Int32) (M : zH) (r : Int32) (M' : zH)  (h : F_Mo_together n E S a0 x1 x2 M = some (r, M')) : zG E Y_Mo_together (some (.int r), S, M') 0 [(0, .ref a0), (1, .int x1), (2, .int x2)] [] S M 0 0 := by
  unfold F_Mo_together at h
  refine zi_aload_n 0 d_Mo_together_0 rfl ?_
  refine zi_iconst 0 d_Mo_together_1 rfl ?_
  obtain ⟨m_3, em_3, h⟩ := zbind h
  refine zo_putI 5 zkd_11 0 d_Mo_together_2 em_3 rfl rfl rfl tw_1231 rfl ?_
  refine zi_iload_n 1 d_Mo_together_5 rfl ?_
  obtain ⟨q_4, eq_4, h⟩ := zbind h
  refine zo_stat (k' := 0) (n' := 0) 9 [.int x1] [] [.int (bI q_4.1)] (C_Mo_isRing n E S x1 m_3 q_4.1 q_4.2 eq_4) d_Mo_together_6 tw_1436 tw_1434 tw_1435 tw_13 dd_Mo_isRing ⟨Nat.le_of_ble_eq_true rfl, Nat.le_of_ble_eq_true rfl, Nat.le_of_ble_eq_true rfl, Nat.le_of_ble_eq_true rfl⟩ (Nat.le_of_ble_eq_true rfl) rfl rfl rfl rfl ?_
  refine zo_ifeqB d_Mo_together_9 rfl 12 rfl (fun c_5 => ?_) (fun c_5 => ?_)
  · rw [if_neg c_5] at h
    refine zi_iconst (-1) d_Mo_together_24 rfl ?_
    cases h
    exact zo_ret d_Mo_together_25 (Nat.le_of_ble_eq_true rfl) (Nat.le_of_ble_eq_true rfl) rfl
  · rw [if_pos c_5] at h
    refine zi_iload_n 2 d_Mo_together_12 rfl ?_
    obtain ⟨q_6, eq_6, h⟩ := zbind h
    refine zo_stat (k' := 0) (n' := 0) 16 [.int x2] [] [.int (bI q_6.1)] (C_Mo_isRing n E S x2 q_4.2 q_6.1 q_6.2 eq_6) d_Mo_together_13 tw_1436 tw_1434 tw_1435 tw_13 dd_Mo_isRing ⟨Nat.le_of_ble_eq_true rfl, Nat.le_of_ble_eq_true rfl, Nat.le_of_ble_eq_true rfl, Nat.le_of_ble_eq_true rfl⟩ (Nat.le_of_ble_eq_true rfl) rfl rfl rfl rfl ?_
    refine zo_ifeqB d_Mo_together_16 rfl 19 rfl (fun c_7 => ?_) (fun c_7 => ?_)
    · rw [if_neg c_7] at h
      refine zi_iconst (-1) d_Mo_together_24 rfl ?_
      cases h
      exact zo_ret d_Mo_together_25 (Nat.le_of_ble_eq_true rfl) (Nat.le_of_ble_eq_true rfl) rfl
    · rw [if_pos c_7] at h
      refine zi_iload_n 1 d_Mo_together_19 rfl ?_
      refine zi_iload_n 2 d_Mo_together_20 rfl ?_
      refine zi_icmp_ne (tgt := 26) d_Mo_together_21 rfl (fun c_8 => ?_) (fun c_8 => ?_)
      · rw [if_neg c_8] at h
        refine zi_iconst 1 d_Mo_together_26 rfl ?_
        refine zi_istore_n [(3, .int 1), (0, .ref a0), (1, .int x1), (2, .int x2)] d_Mo_together_27 (by decide) rfl ?_
        refine zi_lo [(1, .int x1), (2, .int x2), (3, .int 1)] [2, 3, 0] rfl ?_
        exact K_Mo_together_b28 n E S x1 x2 1 q_6.2 r M'  h
      · rw [if_pos c_8] at h
        refine zi_iconst (-1) d_Mo_together_24 rfl ?_
        cases h
        exact zo_ret d_Mo_together_25 (Nat.le_of_ble_eq_true rfl) (Nat.le_of_ble_eq_true rfl) rfl
theorem C_Mo_together (n : Nat) (E : zE) (S : zS) (a0 : Nat) (x1 : Int32) (x2 : Int32) (M : zH) (r : Int32) (M' : zH) (h : F_Mo_together n E S a0 x1 x2 M = some (r, M')) : zC E Y_Mo_together [.ref a0, .int x1, .int x2] S M (some (.int r), S, M') :=
  zC.of (Or.inl (show plainName "NightColanderModel" = true by decide)) (Nat.le_of_ble_eq_true rfl) (trivial) (K_Mo_together n E S a0 x1 x2 M r M' h)
theorem d_Mo_settled_0 : decode (yB Y_Mo_settled) 0 = .ok (.aload_n 0, 1) := by decide +kernel
theorem d_Mo_settled_1 : decode (yB Y_Mo_settled) 1 = .ok (.iconst 0, 1) := by decide +kernel
theorem d_Mo_settled_2 : decode (yB Y_Mo_settled) 2 = .ok (.putfield 156, 3) := by decide +kernel
theorem d_Mo_settled_5 : decode (yB Y_Mo_settled) 5 = .ok (.aload_n 0, 1) := by decide +kernel
theorem d_Mo_settled_6 : decode (yB Y_Mo_settled) 6 = .ok (.iload_n 1, 1) := by decide +kernel
theorem d_Mo_settled_7 : decode (yB Y_Mo_settled) 7 = .ok (.invokevirtual 214, 3) := by decide +kernel
theorem d_Mo_settled_10 : decode (yB Y_Mo_settled) 10 = .ok (.ifCond .ne 5, 3) := by decide +kernel
theorem d_Mo_settled_13 : decode (yB Y_Mo_settled) 13 = .ok (.iconst (-1), 1) := by decide +kernel
theorem d_Mo_settled_14 : decode (yB Y_Mo_settled) 14 = .ok (.ireturn, 1) := by decide +kernel
theorem d_Mo_settled_15 : decode (yB Y_Mo_settled) 15 = .ok (.iload_n 1, 1) := by decide +kernel
theorem d_Mo_settled_16 : decode (yB Y_Mo_settled) 16 = .ok (.aload_n 0, 1) := by decide +kernel
theorem d_Mo_settled_17 : decode (yB Y_Mo_settled) 17 = .ok (.getfield 13, 3) := by decide +kernel
theorem d_Mo_settled_20 : decode (yB Y_Mo_settled) 20 = .ok (.iconst 0, 1) := by decide +kernel
theorem d_Mo_settled_21 : decode (yB Y_Mo_settled) 21 = .ok (.iaload, 1) := by decide +kernel
theorem d_Mo_settled_22 : decode (yB Y_Mo_settled) 22 = .ok (.iadd, 1) := by decide +kernel
theorem d_Mo_settled_23 : decode (yB Y_Mo_settled) 23 = .ok (.iconst 1, 1) := by decide +kernel
theorem d_Mo_settled_24 : decode (yB Y_Mo_settled) 24 = .ok (.isub, 1) := by decide +kernel
theorem d_Mo_settled_25 : decode (yB Y_Mo_settled) 25 = .ok (.aload_n 0, 1) := by decide +kernel
theorem d_Mo_settled_26 : decode (yB Y_Mo_settled) 26 = .ok (.getfield 13, 3) := by decide +kernel
theorem d_Mo_settled_29 : decode (yB Y_Mo_settled) 29 = .ok (.iconst 0, 1) := by decide +kernel
theorem d_Mo_settled_30 : decode (yB Y_Mo_settled) 30 = .ok (.iaload, 1) := by decide +kernel
theorem d_Mo_settled_31 : decode (yB Y_Mo_settled) 31 = .ok (.irem, 1) := by decide +kernel
theorem d_Mo_settled_32 : decode (yB Y_Mo_settled) 32 = .ok (.istore_n 2, 1) := by decide +kernel
theorem d_Mo_settled_33 : decode (yB Y_Mo_settled) 33 = .ok (.aload_n 0, 1) := by decide +kernel
theorem d_Mo_settled_34 : decode (yB Y_Mo_settled) 34 = .ok (.getfield 13, 3) := by decide +kernel
theorem d_Mo_settled_37 : decode (yB Y_Mo_settled) 37 = .ok (.bipush 48, 2) := by decide +kernel
theorem d_Mo_settled_39 : decode (yB Y_Mo_settled) 39 = .ok (.iload_n 1, 1) := by decide +kernel
theorem d_Mo_settled_40 : decode (yB Y_Mo_settled) 40 = .ok (.iadd, 1) := by decide +kernel
theorem d_Mo_settled_41 : decode (yB Y_Mo_settled) 41 = .ok (.iaload, 1) := by decide +kernel
theorem d_Mo_settled_42 : decode (yB Y_Mo_settled) 42 = .ok (.aload_n 0, 1) := by decide +kernel
theorem d_Mo_settled_43 : decode (yB Y_Mo_settled) 43 = .ok (.getfield 13, 3) := by decide +kernel
theorem d_Mo_settled_46 : decode (yB Y_Mo_settled) 46 = .ok (.bipush 48, 2) := by decide +kernel
theorem d_Mo_settled_48 : decode (yB Y_Mo_settled) 48 = .ok (.iload_n 1, 1) := by decide +kernel
theorem d_Mo_settled_49 : decode (yB Y_Mo_settled) 49 = .ok (.iadd, 1) := by decide +kernel
theorem d_Mo_settled_50 : decode (yB Y_Mo_settled) 50 = .ok (.iaload, 1) := by decide +kernel
theorem d_Mo_settled_51 : decode (yB Y_Mo_settled) 51 = .ok (.iconst 2, 1) := by decide +kernel
theorem d_Mo_settled_52 : decode (yB Y_Mo_settled) 52 = .ok (.idiv, 1) := by decide +kernel
theorem d_Mo_settled_53 : decode (yB Y_Mo_settled) 53 = .ok (.isub, 1) := by decide +kernel
theorem d_Mo_settled_54 : decode (yB Y_Mo_settled) 54 = .ok (.aload_n 0, 1) := by decide +kernel
theorem d_Mo_settled_55 : decode (yB Y_Mo_settled) 55 = .ok (.getfield 13, 3) := by decide +kernel
theorem d_Mo_settled_58 : decode (yB Y_Mo_settled) 58 = .ok (.bipush 48, 2) := by decide +kernel
theorem d_Mo_settled_60 : decode (yB Y_Mo_settled) 60 = .ok (.iload_n 2, 1) := by decide +kernel
theorem d_Mo_settled_61 : decode (yB Y_Mo_settled) 61 = .ok (.iadd, 1) := by decide +kernel
theorem d_Mo_settled_62 : decode (yB Y_Mo_settled) 62 = .ok (.iaload, 1) := by decide +kernel
theorem d_Mo_settled_63 : decode (yB Y_Mo_settled) 63 = .ok (.iconst 2, 1) := by decide +kernel
theorem d_Mo_settled_64 : decode (yB Y_Mo_settled) 64 = .ok (.idiv, 1) := by decide +kernel
theorem d_Mo_settled_65 : decode (yB Y_Mo_settled) 65 = .ok (.iadd, 1) := by decide +kernel
theorem d_Mo_settled_66 : decode (yB Y_Mo_settled) 66 = .ok (.ireturn, 1) := by decide +kernel
def F_Mo_settled (n : Nat) (E : zE) (S : zS) (a0 : Nat) (x1 : Int32) (M : zH) : Option (Int32 × zH) :=
  (zpI S M a0 11 0 0).bind fun m_1 =>
  (zck S a0 11).bind fun u_2 =>
  (F_Mo_isBucket n E S a0 x1 m_1).bind fun q_3 =>
  if q_3.1 = true then
    (zgR S a0 11 3).bind fun b_5 =>
    (zldI S q_3.2 b_5 0).bind fun v_6 =>
    (zldI S q_3.2 b_5 0).bind fun v_7 =>
    (zremI ((x1 + v_6) - 1) v_7).bind fun v_8 =>
    (zldI S q_3.2 b_5 (48 + x1)).bind fun v_9 =>
    (zldI S q_3.2 b_5 (48 + x1)).bind fun v_10 =>
    (zdivI v_10 2).bind fun v_11 =>
    (zldI S q_3.2 b_5 (48 + v_8)).bind fun v_12 =>
    (zdivI v_12 2).bind fun v_13 =>
    some ((v_9 - v_11) + v_13, q_3.2)
  else
    some ((-1), q_3.2)
theorem K_Mo_settled (n : Nat) (E : zE) (S : zS) (a0 : Nat) (x1 : Int32) (M : zH) (r : Int32) (M' : zH)  (h : F_Mo_settled n E S a0 x1 M = some (r, M')) : zG E Y_Mo_settled (some (.int r), S, M') 0 [(0, .ref a0), (1, .int x1)] [] S M 0 0 := by
  unfold F_Mo_settled at h
  refine zi_aload_n 0 d_Mo_settled_0 rfl ?_
  refine zi_iconst 0 d_Mo_settled_1 rfl ?_
  obtain ⟨m_1, em_1, h⟩ := zbind h
  refine zo_putI 5 zkd_11 0 d_Mo_settled_2 em_1 rfl rfl rfl tw_1231 rfl ?_
  refine zi_aload_n 0 d_Mo_settled_5 rfl ?_
  refine zi_iload_n 1 d_Mo_settled_6 rfl ?_
  obtain ⟨u_2, eu_2, h⟩ := zbind h
  obtain ⟨q_3, eq_3, h⟩ := zbind h
  refine zo_virt (k' := 0) (n' := 0) 10 [.int x1] [] [.int (bI q_3.1)] zkd_11 (zck_s eu_2) (C_Mo_isBucket n E S a0 x1 m_1 q_3.1 q_3.2 eq_3) d_Mo_settled_7 tw_1465 tw_1462 tw_1464 ts_43 tw_13 dd_Mo_isBucket ⟨Nat.le_of_ble_eq_true rfl, Nat.le_of_ble_eq_true rfl, Nat.le_of_ble_eq_true rfl, Nat.le_of_ble_eq_true rfl⟩ (Nat.le_of_ble_eq_true rfl) rfl rfl rfl rfl ?_
  refine zo_ifneB d_Mo_settled_10 rfl 13 rfl (fun c_4 => ?_) (fun c_4 => ?_)
  · rw [if_pos c_4] at h
    refine zi_iload_n 1 d_Mo_settled_15 rfl ?_
    refine zi_aload_n 0 d_Mo_settled_16 rfl ?_
    obtain ⟨b_5, eb_5, h⟩ := zbind h
    refine zo_getR 20 zkd_11 3 d_Mo_settled_17 eb_5 rfl tw_1234 rfl ?_
    refine zi_iconst 0 d_Mo_settled_20 rfl ?_
    obtain ⟨v_6, ev_6, h⟩ := zbind h
    refine zo_iald 22 d_Mo_settled_21 ev_6 rfl ?_
    refine zi_iadd d_Mo_settled_22 ?_
    refine zi_iconst 1 d_Mo_settled_23 rfl ?_
    refine zi_isub d_Mo_settled_24 ?_
    refine zi_aload_n 0 d_Mo_settled_25 rfl ?_
    refine zo_getR 29 zkd_11 3 d_Mo_settled_26 eb_5 rfl tw_1234 rfl ?_
    refine zi_iconst 0 d_Mo_settled_29 rfl ?_
    obtain ⟨v_7, ev_7, h⟩ := zbind h
    refine zo_iald 31 d_Mo_settled_30 ev_7 rfl ?_
    obtain ⟨v_8, ev_8, h⟩ := zbind h
    refine zo_irem 32 d_Mo_settled_31 ev_8 rfl ?_
    refine zi_istore_n [(2, .int v_8), (0, .ref a0), (1, .int x1)] d_Mo_settled_32 (by decide) rfl ?_
    refine zi_aload_n 1 d_Mo_settled_33 rfl ?_
    refine zo_getR 37 zkd_11 3 d_Mo_settled_34 eb_5 rfl tw_1234 rfl ?_
    refine zi_bipush 48 d_Mo_settled_37 rfl ?_
    refine zi_iload_n 2 d_Mo_settled_39 rfl ?_
    refine zi_iadd d_Mo_settled_40 ?_
    obtain ⟨v_9, ev_9, h⟩ := zbind h
    refine zo_iald 42 d_Mo_settled_41 ev_9 rfl ?_
    refine zi_aload_n 1 d_Mo_settled_42 rfl ?_
    refine zo_getR 46 zkd_11 3 d_Mo_settled_43 eb_5 rfl tw_1234 rfl ?_
    refine zi_bipush 48 d_Mo_settled_46 rfl ?_
    refine zi_iload_n 2 d_Mo_settled_48 rfl ?_
    refine zi_iadd d_Mo_settled_49 ?_
    obtain ⟨v_10, ev_10, h⟩ := zbind h
    refine zo_iald 51 d_Mo_settled_50 ev_10 rfl ?_
    refine zi_iconst 2 d_Mo_settled_51 rfl ?_
    obtain ⟨v_11, ev_11, h⟩ := zbind h
    refine zo_idiv 53 d_Mo_settled_52 ev_11 rfl ?_
    refine zi_isub d_Mo_settled_53 ?_
    refine zi_aload_n 1 d_Mo_settled_54 rfl ?_
    refine zo_getR 58 zkd_11 3 d_Mo_settled_55 eb_5 rfl tw_1234 rfl ?_
    refine zi_bipush 48 d_Mo_settled_58 rfl ?_
    refine zi_iload_n 0 d_Mo_settled_60 rfl ?_
    refine zi_iadd d_Mo_settled_61 ?_
    obtain ⟨v_12, ev_12, h⟩ := zbind h
    refine zo_iald 63 d_Mo_settled_62 ev_12 rfl ?_
    refine zi_iconst 2 d_Mo_settled_63 rfl ?_
    obtain ⟨v_13, ev_13, h⟩ := zbind h
    refine zo_idiv 65 d_Mo_settled_64 ev_13 rfl ?_
    refine zi_iadd d_Mo_settled_65 ?_
    cases h
    exact zo_ret d_Mo_settled_66 (Nat.le_of_ble_eq_true rfl) (Nat.le_of_ble_eq_true rfl) rfl
  · rw [if_neg c_4] at h
    refine zi_iconst (-1) d_Mo_settled_13 rfl ?_
    cases h
    exact zo_ret d_Mo_settled_14 (Nat.le_of_ble_eq_true rfl) (Nat.le_of_ble_eq_true rfl) rfl
theorem C_Mo_settled (n : Nat) (E : zE) (S : zS) (a0 : Nat) (x1 : Int32) (M : zH) (r : Int32) (M' : zH) (h : F_Mo_settled n E S a0 x1 M = some (r, M')) : zC E Y_Mo_settled [.ref a0, .int x1] S M (some (.int r), S, M') :=
  zC.of (Or.inl (show plainName "NightColanderModel" = true by decide)) (Nat.le_of_ble_eq_true rfl) (trivial) (K_Mo_settled n E S a0 x1 M r M' h)
theorem d_Mo_few_0 : decode (yB Y_Mo_few) 0 = .ok (.aload_n 0, 1) := by decide +kernel
theorem d_Mo_few_1 : decode (yB Y_Mo_few) 1 = .ok (.iconst 0, 1) := by decide +kernel
theorem d_Mo_few_2 : decode (yB Y_Mo_few) 2 = .ok (.putfield 156, 3) := by decide +kernel
theorem d_Mo_few_5 : decode (yB Y_Mo_few) 5 = .ok (.iload_n 1, 1) := by decide +kernel
theorem d_Mo_few_6 : decode (yB Y_Mo_few) 6 = .ok (.i2l, 1) := by decide +kernel
theorem d_Mo_few_7 : decode (yB Y_Mo_few) 7 = .ok (.lconst 1, 1) := by decide +kernel
theorem d_Mo_few_8 : decode (yB Y_Mo_few) 8 = .ok (.ldc2_w 304, 3) := by decide +kernel
theorem d_Mo_few_11 : decode (yB Y_Mo_few) 11 = .ok (.invokestatic 176, 3) := by decide +kernel
theorem d_Mo_few_14 : decode (yB Y_Mo_few) 14 = .ok (.ifCond .eq 15, 3) := by decide +kernel
theorem d_Mo_few_17 : decode (yB Y_Mo_few) 17 = .ok (.iload_n 2, 1) := by decide +kernel
theorem d_Mo_few_18 : decode (yB Y_Mo_few) 18 = .ok (.i2l, 1) := by decide +kernel
theorem d_Mo_few_19 : decode (yB Y_Mo_few) 19 = .ok (.lconst 0, 1) := by decide +kernel
theorem d_Mo_few_20 : decode (yB Y_Mo_few) 20 = .ok (.ldc2_w 209, 3) := by decide +kernel
theorem d_Mo_few_23 : decode (yB Y_Mo_few) 23 = .ok (.invokestatic 176, 3) := by decide +kernel
theorem d_Mo_few_26 : decode (yB Y_Mo_few) 26 = .ok (.ifCond .ne 7, 3) := by decide +kernel
theorem d_Mo_few_29 : decode (yB Y_Mo_few) 29 = .ok (.ldc2_w 228, 3) := by decide +kernel
theorem d_Mo_few_32 : decode (yB Y_Mo_few) 32 = .ok (.lreturn, 1) := by decide +kernel
theorem d_Mo_few_33 : decode (yB Y_Mo_few) 33 = .ok (.iconst 0, 1) := by decide +kernel
theorem d_Mo_few_34 : decode (yB Y_Mo_few) 34 = .ok (.istore_n 3, 1) := by decide +kernel
theorem d_Mo_few_35 : decode (yB Y_Mo_few) 35 = .ok (.iload_n 3, 1) := by decide +kernel
theorem d_Mo_few_36 : decode (yB Y_Mo_few) 36 = .ok (.bipush 21, 2) := by decide +kernel
theorem d_Mo_few_38 : decode (yB Y_Mo_few) 38 = .ok (.if_icmp .ge 26, 3) := by decide +kernel
theorem d_Mo_few_41 : decode (yB Y_Mo_few) 41 = .ok (.aload_n 0, 1) := by decide +kernel
theorem d_Mo_few_42 : decode (yB Y_Mo_few) 42 = .ok (.getfield 130, 3) := by decide +kernel
theorem d_Mo_few_45 : decode (yB Y_Mo_few) 45 = .ok (.iload_n 3, 1) := by decide +kernel
theorem d_Mo_few_46 : decode (yB Y_Mo_few) 46 = .ok (.iload_n 3, 1) := by decide +kernel
theorem d_Mo_few_47 : decode (yB Y_Mo_few) 47 = .ok (.ifCond .ne 9, 3) := by decide +kernel
theorem d_Mo_few_50 : decode (yB Y_Mo_few) 50 = .ok (.ldc2_w 503, 3) := by decide +kernel
theorem d_Mo_few_53 : decode (yB Y_Mo_few) 53 = .ok (.goto 4, 3) := by decide +kernel
theorem d_Mo_few_56 : decode (yB Y_Mo_few) 56 = .ok (.lconst 0, 1) := by decide +kernel
theorem d_Mo_few_57 : decode (yB Y_Mo_few) 57 = .ok (.lastore, 1) := by decide +kernel
theorem d_Mo_few_58 : decode (yB Y_Mo_few) 58 = .ok (.iinc 3 1, 3) := by decide +kernel
theorem d_Mo_few_61 : decode (yB Y_Mo_few) 61 = .ok (.goto (-26), 3) := by decide +kernel
theorem d_Mo_few_64 : decode (yB Y_Mo_few) 64 = .ok (.aload_n 0, 1) := by decide +kernel
theorem d_Mo_few_65 : decode (yB Y_Mo_few) 65 = .ok (.getfield 13, 3) := by decide +kernel
theorem d_Mo_few_68 : decode (yB Y_Mo_few) 68 = .ok (.bipush 7, 2) := by decide +kernel
theorem d_Mo_few_70 : decode (yB Y_Mo_few) 70 = .ok (.iaload, 1) := by decide +kernel
theorem d_Mo_few_71 : decode (yB Y_Mo_few) 71 = .ok (.istore_n 3, 1) := by decide +kernel
theorem d_Mo_few_72 : decode (yB Y_Mo_few) 72 = .ok (.iconst 0, 1) := by decide +kernel
theorem d_Mo_few_73 : decode (yB Y_Mo_few) 73 = .ok (.istore 4, 2) := by decide +kernel
theorem d_Mo_few_75 : decode (yB Y_Mo_few) 75 = .ok (.iload 4, 2) := by decide +kernel
theorem d_Mo_few_77 : decode (yB Y_Mo_few) 77 = .ok (.iload_n 2, 1) := by decide +kernel
theorem d_Mo_few_78 : decode (yB Y_Mo_few) 78 = .ok (.if_icmp .ge 74, 3) := by decide +kernel
theorem d_Mo_few_81 : decode (yB Y_Mo_few) 81 = .ok (.iload_n 1, 1) := by decide +kernel
theorem d_Mo_few_82 : decode (yB Y_Mo_few) 82 = .ok (.iconst 1, 1) := by decide +kernel
theorem d_Mo_few_83 : decode (yB Y_Mo_few) 83 = .ok (.isub, 1) := by decide +kernel
theorem d_Mo_few_84 : decode (yB Y_Mo_few) 84 = .ok (.istore 5, 2) := by decide +kernel
theorem d_Mo_few_86 : decode (yB Y_Mo_few) 86 = .ok (.iload 5, 2) := by decide +kernel
theorem d_Mo_few_88 : decode (yB Y_Mo_few) 88 = .ok (.ifCond .lt 58, 3) := by decide +kernel
theorem d_Mo_few_91 : decode (yB Y_Mo_few) 91 = .ok (.aload_n 0, 1) := by decide +kernel
theorem d_Mo_few_92 : decode (yB Y_Mo_few) 92 = .ok (.getfield 130, 3) := by decide +kernel
theorem d_Mo_few_95 : decode (yB Y_Mo_few) 95 = .ok (.iload 5, 2) := by decide +kernel
theorem d_Mo_few_97 : decode (yB Y_Mo_few) 97 = .ok (.laload, 1) := by decide +kernel
theorem d_Mo_few_98 : decode (yB Y_Mo_few) 98 = .ok (.lstore 6, 2) := by decide +kernel
theorem d_Mo_few_100 : decode (yB Y_Mo_few) 100 = .ok (.aload_n 0, 1) := by decide +kernel
theorem d_Mo_few_101 : decode (yB Y_Mo_few) 101 = .ok (.getfield 130, 3) := by decide +kernel
theorem d_Mo_few_104 : decode (yB Y_Mo_few) 104 = .ok (.iload 5, 2) := by decide +kernel
theorem d_Mo_few_106 : decode (yB Y_Mo_few) 106 = .ok (.lload 6, 2) := by decide +kernel
theorem d_Mo_few_108 : decode (yB Y_Mo_few) 108 = .ok (.bipush 10, 2) := by decide +kernel
theorem d_Mo_few_110 : decode (yB Y_Mo_few) 110 = .ok (.iload_n 3, 1) := by decide +kernel
theorem d_Mo_few_111 : decode (yB Y_Mo_few) 111 = .ok (.isub, 1) := by decide +kernel
theorem d_Mo_few_112 : decode (yB Y_Mo_few) 112 = .ok (.i2l, 1) := by decide +kernel
theorem d_Mo_few_113 : decode (yB Y_Mo_few) 113 = .ok (.lmul, 1) := by decide +kernel
theorem d_Mo_few_114 : decode (yB Y_Mo_few) 114 = .ok (.ldc2_w 239, 3) := by decide +kernel
theorem d_Mo_few_117 : decode (yB Y_Mo_few) 117 = .ok (.ldiv, 1) := by decide +kernel
theorem d_Mo_few_118 : decode (yB Y_Mo_few) 118 = .ok (.lastore, 1) := by decide +kernel
theorem d_Mo_few_119 : decode (yB Y_Mo_few) 119 = .ok (.aload_n 0, 1) := by decide +kernel
theorem d_Mo_few_120 : decode (yB Y_Mo_few) 120 = .ok (.getfield 130, 3) := by decide +kernel
theorem d_Mo_few_123 : decode (yB Y_Mo_few) 123 = .ok (.iload 5, 2) := by decide +kernel
theorem d_Mo_few_125 : decode (yB Y_Mo_few) 125 = .ok (.iconst 1, 1) := by decide +kernel
theorem d_Mo_few_126 : decode (yB Y_Mo_few) 126 = .ok (.iadd, 1) := by decide +kernel
theorem d_Mo_few_127 : decode (yB Y_Mo_few) 127 = .ok (.dup2, 1) := by decide +kernel
theorem d_Mo_few_128 : decode (yB Y_Mo_few) 128 = .ok (.laload, 1) := by decide +kernel
theorem d_Mo_few_129 : decode (yB Y_Mo_few) 129 = .ok (.lload 6, 2) := by decide +kernel
theorem d_Mo_few_131 : decode (yB Y_Mo_few) 131 = .ok (.iload_n 3, 1) := by decide +kernel
theorem d_Mo_few_132 : decode (yB Y_Mo_few) 132 = .ok (.i2l, 1) := by decide +kernel
theorem d_Mo_few_133 : decode (yB Y_Mo_few) 133 = .ok (.lmul, 1) := by decide +kernel
theorem d_Mo_few_134 : decode (yB Y_Mo_few) 134 = .ok (.ldc2_w 239, 3) := by decide +kernel
theorem d_Mo_few_137 : decode (yB Y_Mo_few) 137 = .ok (.ldiv, 1) := by decide +kernel
theorem d_Mo_few_138 : decode (yB Y_Mo_few) 138 = .ok (.ladd, 1) := by decide +kernel
theorem d_Mo_few_139 : decode (yB Y_Mo_few) 139 = .ok (.lastore, 1) := by decide +kernel
theorem d_Mo_few_140 : decode (yB Y_Mo_few) 140 = .ok (.iinc 5 (-1), 3) := by decide +kernel
theorem d_Mo_few_143 : decode (yB Y_Mo_few) 143 = .ok (.goto (-57), 3) := by decide +kernel
theorem d_Mo_few_146 : decode (yB Y_Mo_few) 146 = .ok (.iinc 4 1, 3) := by decide +kernel
theorem d_Mo_few_149 : decode (yB Y_Mo_few) 149 = .ok (.goto (-74), 3) := by decide +kernel
theorem d_Mo_few_152 : decode (yB Y_Mo_few) 152 = .ok (.lconst 0, 1) := by decide +kernel
theorem d_Mo_few_153 : decode (yB Y_Mo_few) 153 = .ok (.lstore 4, 2) := by decide +kernel
theorem d_Mo_few_155 : decode (yB Y_Mo_few) 155 = .ok (.iconst 0, 1) := by decide +kernel
theorem d_Mo_few_156 : decode (yB Y_Mo_few) 156 = .ok (.istore 6, 2) := by decide +kernel
theorem d_Mo_few_158 : decode (yB Y_Mo_few) 158 = .ok (.iload 6, 2) := by decide +kernel
theorem d_Mo_few_160 : decode (yB Y_Mo_few) 160 = .ok (.iload_n 1, 1) := by decide +kernel
theorem d_Mo_few_161 : decode (yB Y_Mo_few) 161 = .ok (.if_icmp .ge 21, 3) := by decide +kernel
theorem d_Mo_few_164 : decode (yB Y_Mo_few) 164 = .ok (.lload 4, 2) := by decide +kernel
theorem d_Mo_few_166 : decode (yB Y_Mo_few) 166 = .ok (.aload_n 0, 1) := by decide +kernel
theorem d_Mo_few_167 : decode (yB Y_Mo_few) 167 = .ok (.getfield 130, 3) := by decide +kernel
theorem d_Mo_few_170 : decode (yB Y_Mo_few) 170 = .ok (.iload 6, 2) := by decide +kernel
theorem d_Mo_few_172 : decode (yB Y_Mo_few) 172 = .ok (.laload, 1) := by decide +kernel
theorem d_Mo_few_173 : decode (yB Y_Mo_few) 173 = .ok (.ladd, 1) := by decide +kernel
theorem d_Mo_few_174 : decode (yB Y_Mo_few) 174 = .ok (.lstore 4, 2) := by decide +kernel
theorem d_Mo_few_176 : decode (yB Y_Mo_few) 176 = .ok (.iinc 6 1, 3) := by decide +kernel
theorem d_Mo_few_179 : decode (yB Y_Mo_few) 179 = .ok (.goto (-21), 3) := by decide +kernel
theorem d_Mo_few_182 : decode (yB Y_Mo_few) 182 = .ok (.lload 4, 2) := by decide +kernel
theorem d_Mo_few_184 : decode (yB Y_Mo_few) 184 = .ok (.lreturn, 1) := by decide +kernel
def F_Mo_few_b29 (n : Nat) (E : zE) (S : zS)  (M : zH) : Option (Int64 × zH) :=
  some ((-1), M)
def F_Mo_few_b57 (n : Nat) (E : zE) (S : zS) (r35 : Nat × Int32 × Int32 × Int32 × zH → Option (Int64 × zH)) (a0 : Nat) (x1 : Int32) (x2 : Int32) (x3 : Int32) (t0 : Int64) (s1 : Int32) (u2 : Nat) (M : zH) : Option (Int64 × zH) :=
  (zstJ S M u2 s1 t0).bind fun m_1 =>
  r35 (a0, x1, x2, x3 + 1, m_1)
def F_Mo_few_L86 (n : Nat) (E : zE) (S : zS) (r75 : Nat × Int32 × Int32 × Int32 × Int32 × zH → Option (Int64 × zH)) (r86 : Nat × Int32 × Int32 × Int32 × Int32 × Int32 × zH → Option (Int64 × zH)) (a0 : Nat) (x1 : Int32) (x2 : Int32) (x3 : Int32) (x4 : Int32) (x5 : Int32) (M : zH) : Option (Int64 × zH) :=
  if x5 < 0 then
    r75 (a0, x1, x2, x3, x4 + 1, M)
  else
    (zgR S a0 11 47).bind fun b_3 =>
    (zldJ S M b_3 x5).bind fun v_4 =>
    (zdivJ (v_4 * ((10 - x3).toInt64)) 10).bind fun v_5 =>
    (zstJ S M b_3 x5 v_5).bind fun m_6 =>
    (zldJ S m_6 b_3 (x5 + 1)).bind fun v_7 =>
    (zdivJ (v_4 * x3.toInt64) 10).bind fun v_8 =>
    (zstJ S m_6 b_3 (x5 + 1) (v_7 + v_8)).bind fun m_9 =>
    r86 (a0, x1, x2, x3, x4, x5 + (-1), m_9)
def F_Mo_few_b86 (n : Nat) (E : zE) (S : zS) (r75 : Nat × Int32 × Int32 × Int32 × Int32 × zH → Option (Int64 × zH)) : Nat × Int32 × Int32 × Int32 × Int32 × Int32 × zH → Option (Int64 × zH) := zfix (fun r86 s => F_Mo_few_L86 n E S r75 r86 s.1 s.2.1 s.2.2.1 s.2.2.2.1 s.2.2.2.2.1 s.2.2.2.2.2.1 s.2.2.2.2.2.2) n
def F_Mo_few_L158 (n : Nat) (E : zE) (S : zS) (r158 : Nat × Int32 × Int64 × Int32 × zH → Option (Int64 × zH)) (a0 : Nat) (x1 : Int32) (y4 : Int64) (x6 : Int32) (M : zH) : Option (Int64 × zH) :=
  if x1 ≤ x6 then
    some (y4, M)
  else
    (zgR S a0 11 47).bind fun b_11 =>
    (zldJ S M b_11 x6).bind fun v_12 =>
    r158 (a0, x1, y4 + v_12, x6 + 1, M)
def F_Mo_few_b158 (n : Nat) (E : zE) (S : zS) : Nat × Int32 × Int64 × Int32 × zH → Option (Int64 × zH) := zfix (fun r158 s => F_Mo_few_L158 n E S r158 s.1 s.2.1 s.2.2.1 s.2.2.2.1 s.2.2.2.2) n
def F_Mo_few_L75 (n : Nat) (E : zE) (S : zS) (r75 : Nat × Int32 × Int32 × Int32 × Int32 × zH → Option (Int64 × zH)) (a0 : Nat) (x1 : Int32) (x2 : Int32) (x3 : Int32) (x4 : Int32) (M : zH) : Option (Int64 × zH) :=
  if x2 ≤ x4 then
    F_Mo_few_b158 n E S (a0, x1, 0, 0, M)
  else
    F_Mo_few_b86 n E S r75 (a0, x1, x2, x3, x4, x1 - 1, M)
def F_Mo_few_b75 (n : Nat) (E : zE) (S : zS) : Nat × Int32 × Int32 × Int32 × Int32 × zH → Option (Int64 × zH) := zfix (fun r75 s => F_Mo_few_L75 n E S r75 s.1 s.2.1 s.2.2.1 s.2.2.2.1 s.2.2.2.2.1 s.2.2.2.2.2) n
def F_Mo_few_L35 (n : Nat) (E : zE) (S : zS) (r35 : Nat × Int32 × Int32 × Int32 × zH → Option (Int64 × zH)) (a0 : Nat) (x1 : Int32) (x2 : Int32) (x3 : Int32) (M : zH) : Option (Int64 × zH) :=
  if 21 ≤ x3 then
    (zgR S a0 11 3).bind fun b_15 =>
    (zldI S M b_15 7).bind fun v_16 =>
    F_Mo_few_b75 n E S (a0, x1, x2, v_16, 0, M)
  else
    (zgR S a0 11 47).bind fun b_17 =>
    if x3 = 0 then
      F_Mo_few_b57 n E S r35 a0 x1 x2 x3 1000000000000 x3 b_17 M
    else
      F_Mo_few_b57 n E S r35 a0 x1 x2 x3 0 x3 b_17 M
def F_Mo_few_b35 (n : Nat) (E : zE) (S : zS) : Nat × Int32 × Int32 × Int32 × zH → Option (Int64 × zH) := zfix (fun r35 s => F_Mo_few_L35 n E S r35 s.1 s.2.1 s.2.2.1 s.2.2.2.1 s.2.2.2.2) n
def F_Mo_few (n : Nat) (E : zE) (S : zS) (a0 : Nat) (x1 : Int32) (x2 : Int32) (M : zH) : Option (Int64 × zH) :=
  (zpI S M a0 11 0 0).bind fun m_19 =>
  (F_Mo_in n E S x1.toInt64 1 20 m_19).bind fun q_20 =>
  if q_20.1 = true then
    (F_Mo_in n E S x2.toInt64 0 99 q_20.2).bind fun q_22 =>
    if q_22.1 = true then
      F_Mo_few_b35 n E S (a0, x1, x2, 0, q_22.2)
    else
      F_Mo_few_b29 n E S  q_22.2
  else
    F_Mo_few_b29 n E S  q_20.2
theorem K_Mo_few_b29 (n : Nat) (E : zE) (S : zS)  (M : zH) (r : Int64) (M' : zH)  (h : F_Mo_few_b29 n E S  M = some (r, M')) : zG E Y_Mo_few (some (.long r), S, M') 29 [] [] S M 0 0 := by
  unfold F_Mo_few_b29 at h
  refine zi_ldc2 d_Mo_few_29 tw_1449 ?_
  cases h
  exact zo_ret d_Mo_few_32 (Nat.le_of_ble_eq_true rfl) (Nat.le_of_ble_eq_true rfl) rfl
theorem K_Mo_few_b57 (n : Nat) (E : zE) (S : zS) (r35 : Nat × Int32 × Int32 × Int32 × zH → Option (Int64 × zH)) (a0 : Nat) (x1 : Int32) (x2 : Int32) (x3 : Int32) (t0 : Int64) (s1 : Int32) (u2 : Nat) (M : zH) (r : Int64) (M' : zH) (hr35 : ∀ (a0 : Nat) (x1 : Int32) (x2 : Int32) (x3 : Int32) (M : zH), r35 (a0, x1, x2, x3, M) = some (r, M') → zG E Y_Mo_few (some (.long r), S, M') 35 [(0, .ref a0), (1, .int x1), (2, .int x2), (3, .int x3)] [] S M 0 0) (h : F_Mo_few_b57 n E S r35 a0 x1 x2 x3 t0 s1 u2 M = some (r, M')) : zG E Y_Mo_few (some (.long r), S, M') 57 [(0, .ref a0), (1, .int x1), (2, .int x2), (3, .int x3)] [.long t0, .int s1, .ref u2] S M 0 0 := by
  unfold F_Mo_few_b57 at h
  obtain ⟨m_1, em_1, h⟩ := zbind h
  refine zo_last 58 d_Mo_few_57 em_1 rfl ?_
  refine zi_iinc 3 (x3 + 1) [(3, .int (x3 + 1)), (0, .ref a0), (1, .int x1), (2, .int x2)] d_Mo_few_58 rfl rfl (by decide) rfl ?_
  refine zi_goto (tgt := 35) d_Mo_few_61 rfl ?_
  refine zi_lo [(0, .ref a0), (1, .int x1), (2, .int x2), (3, .int (x3 + 1))] [1, 2, 3, 0] rfl ?_
  exact hr35 a0 x1 x2 (x3 + 1) m_1 h
theorem K_Mo_few_L86 (n : Nat) (E : zE) (S : zS) (r75 : Nat × Int32 × Int32 × Int32 × Int32 × zH → Option (Int64 × zH)) (r86 : Nat × Int32 × Int32 × Int32 × Int32 × Int32 × zH → Option (Int64 × zH)) (a0 : Nat) (x1 : Int32) (x2 : Int32) (x3 : Int32) (x4 : Int32) (x5 : Int32) (M : zH) (r : Int64) (M' : zH) (hr75 : ∀ (a0 : Nat) (x1 : Int32) (x2 : Int32) (x3 : Int32) (x4 : Int32) (M : zH), r75 (a0, x1, x2, x3, x4, M) = some (r, M') → zG E Y_Mo_few (some (.long r), S, M') 75 [(0, .ref a0), (1, .int x1), (2, .int x2), (3, .int x3), (4, .int x4)] [] S M 0 0) (hr86 : ∀ (a0 : Nat) (x1 : Int32) (x2 : Int32) (x3 : Int32) (x4 : Int32) (x5 : Int32) (M : zH), r86 (a0, x1, x2, x3, x4, x5, M) = some (r, M') → zG E Y_Mo_few (some (.long r), S, M') 86 [(0, .ref a0), (1, .int x1), (2, .int x2), (3, .int x3), (4, .int x4), (5, .int x5)] [] S M 0 0) (h : F_Mo_few_L86 n E S r75 r86 a0 x1 x2 x3 x4 x5 M = some (r, M')) : zG E Y_Mo_few (some (.long r), S, M') 86 [(0, .ref a0), (1, .int x1), (2, .int x2), (3, .int x3), (4, .int x4), (5, .int x5)] [] S M 0 0 := by
  unfold F_Mo_few_L86 at h
  refine zi_iload 5 d_Mo_few_86 rfl ?_
  refine zi_if_lt (tgt := 146) d_Mo_few_88 rfl (fun c_2 => ?_) (fun c_2 => ?_)
  · rw [if_pos c_2] at h
    refine zi_iinc 4 (x4 + 1) [(4, .int (x4 + 1)), (0, .ref a0), (1, .int x1), (2, .int x2), (3, .int x3), (5, .int x5)] d_Mo_few_146 rfl rfl (by decide) rfl ?_
    refine zi_goto (tgt := 75) d_Mo_few_149 rfl ?_
    refine zi_lo [(0, .ref a0), (1, .int x1), (2, .int x2), (3, .int x3), (4, .int (x4 + 1))] [1, 2, 3, 4, 0] rfl ?_
    exact hr75 a0 x1 x2 x3 (x4 + 1) M h
  · rw [if_neg c_2] at h
    refine zi_aload_n 0 d_Mo_few_91 rfl ?_
    obtain ⟨b_3, eb_3, h⟩ := zbind h
    refine zo_getR 95 zkd_11 47 d_Mo_few_92 eb_3 rfl tw_1278 rfl ?_
    refine zi_iload 5 d_Mo_few_95 rfl ?_
    obtain ⟨v_4, ev_4, h⟩ := zbind h
    refine zo_lald 98 d_Mo_few_97 ev_4 rfl ?_
    refine zi_lstore [(6, .long v_4), (0, .ref a0), (1, .int x1), (2, .int x2), (3, .int x3), (4, .int x4), (5, .int x5)] d_Mo_few_98 (by decide) rfl ?_
    refine zi_aload_n 1 d_Mo_few_100 rfl ?_
    refine zo_getR 104 zkd_11 47 d_Mo_few_101 eb_3 rfl tw_1278 rfl ?_
    refine zi_iload 6 d_Mo_few_104 rfl ?_
    refine zi_lload 0 d_Mo_few_106 rfl ?_
    refine zi_bipush 10 d_Mo_few_108 rfl ?_
    refine zi_iload_n 4 d_Mo_few_110 rfl ?_
    refine zi_isub d_Mo_few_111 ?_
    refine zi_i2l d_Mo_few_112 ?_
    refine zi_lmul d_Mo_few_113 ?_
    refine zi_ldc2 d_Mo_few_114 tw_1539 ?_
    obtain ⟨v_5, ev_5, h⟩ := zbind h
    refine zo_ldiv 118 d_Mo_few_117 ev_5 rfl ?_
    obtain ⟨m_6, em_6, h⟩ := zbind h
    refine zo_last 119 d_Mo_few_118 em_6 rfl ?_
    refine zi_aload_n 1 d_Mo_few_119 rfl ?_
    refine zo_getR 123 zkd_11 47 d_Mo_few_120 eb_3 rfl tw_1278 rfl ?_
    refine zi_iload 6 d_Mo_few_123 rfl ?_
    refine zi_iconst 1 d_Mo_few_125 rfl ?_
    refine zi_iadd d_Mo_few_126 ?_
    refine zi_dup2 d_Mo_few_127 rfl rfl ?_
    obtain ⟨v_7, ev_7, h⟩ := zbind h
    refine zo_lald 129 d_Mo_few_128 ev_7 rfl ?_
    refine zi_lload 0 d_Mo_few_129 rfl ?_
    refine zi_iload_n 4 d_Mo_few_131 rfl ?_
    refine zi_i2l d_Mo_few_132 ?_
    refine zi_lmul d_Mo_few_133 ?_
    refine zi_ldc2 d_Mo_few_134 tw_1539 ?_
    obtain ⟨v_8, ev_8, h⟩ := zbind h
    refine zo_ldiv 138 d_Mo_few_137 ev_8 rfl ?_
    refine zi_ladd d_Mo_few_138 ?_
    obtain ⟨m_9, em_9, h⟩ := zbind h
    refine zo_last 140 d_Mo_few_139 em_9 rfl ?_
    refine zi_iinc 6 (x5 + (-1)) [(5, .int (x5 + (-1))), (6, .long v_4), (0, .ref a0), (1, .int x1), (2, .int x2), (3, .int x3), (4, .int x4)] d_Mo_few_140 rfl rfl (by decide) rfl ?_
    refine zi_goto (tgt := 86) d_Mo_few_143 rfl ?_
    refine zi_lo [(0, .ref a0), (1, .int x1), (2, .int x2), (3, .int x3), (4, .int x4), (5, .int (x5 + (-1)))] [2, 3, 4, 5, 6, 0] rfl ?_
    exact hr86 a0 x1 x2 x3 x4 (x5 + (-1)) m_9 h
theorem K_Mo_few_b86 (n : Nat) (E : zE) (S : zS) (r75 : Nat × Int32 × Int32 × Int32 × Int32 × zH → Option (Int64 × zH)) (a0 : Nat) (x1 : Int32) (x2 : Int32) (x3 : Int32) (x4 : Int32) (x5 : Int32) (M : zH) (r : Int64) (M' : zH) (hr75 : ∀ (a0 : Nat) (x1 : Int32) (x2 : Int32) (x3 : Int32) (x4 : Int32) (M : zH), r75 (a0, x1, x2, x3, x4, M) = some (r, M') → zG E Y_Mo_few (some (.long r), S, M') 75 [(0, .ref a0), (1, .int x1), (2, .int x2), (3, .int x3), (4, .int x4)] [] S M 0 0) (h : F_Mo_few_b86 n E S r75 (a0, x1, x2, x3, x4, x5, M) = some (r, M')) : zG E Y_Mo_few (some (.long r), S, M') 86 [(0, .ref a0), (1, .int x1), (2, .int x2), (3, .int x3), (4, .int x4), (5, .int x5)] [] S M 0 0 := by
  have key : ∀ (k : Nat) (a0 : Nat) (x1 : Int32) (x2 : Int32) (x3 : Int32) (x4 : Int32) (x5 : Int32) (M : zH), zfix (fun r86 s => F_Mo_few_L86 n E S r75 r86 s.1 s.2.1 s.2.2.1 s.2.2.2.1 s.2.2.2.2.1 s.2.2.2.2.2.1 s.2.2.2.2.2.2) k (a0, x1, x2, x3, x4, x5, M) = some (r, M') → zG E Y_Mo_few (some (.long r), S, M') 86 [(0, .ref a0), (1, .int x1), (2, .int x2), (3, .int x3), (4, .int x4), (5, .int x5)] [] S M 0 0 := by
    intro k
    induction k with
    | zero => intro a0 x1 x2 x3 x4 x5 M h; cases h
    | succ k ih => intro a0 x1 x2 x3 x4 x5 M h; exact K_Mo_few_L86 n E S r75 _ a0 x1 x2 x3 x4 x5 M r M' hr75 (fun a0 x1 x2 x3 x4 x5 M h => ih a0 x1 x2 x3 x4 x5 M h) h
  exact key n a0 x1 x2 x3 x4 x5 M h
theorem K_Mo_few_L158 (n : Nat) (E : zE) (S : zS) (r158 : Nat × Int32 × Int64 × Int32 × zH → Option (Int64 × zH)) (a0 : Nat) (x1 : Int32) (y4 : Int64) (x6 : Int32) (M : zH) (r : Int64) (M' : zH) (hr158 : ∀ (a0 : Nat) (x1 : Int32) (y4 : Int64) (x6 : Int32) (M : zH), r158 (a0, x1, y4, x6, M) = some (r, M') → zG E Y_Mo_few (some (.long r), S, M') 158 [(0, .ref a0), (1, .int x1), (4, .long y4), (6, .int x6)] [] S M 0 0) (h : F_Mo_few_L158 n E S r158 a0 x1 y4 x6 M = some (r, M')) : zG E Y_Mo_few (some (.long r), S, M') 158 [(0, .ref a0), (1, .int x1), (4, .long y4), (6, .int x6)] [] S M 0 0 := by
  unfold F_Mo_few_L158 at h
  refine zi_iload 3 d_Mo_few_158 rfl ?_
  refine zi_iload_n 1 d_Mo_few_160 rfl ?_
  refine zi_icmp_ge (tgt := 182) d_Mo_few_161 rfl (fun c_10 => ?_) (fun c_10 => ?_)
  · rw [if_pos c_10] at h
    refine zi_lload 2 d_Mo_few_182 rfl ?_
    cases h
    exact zo_ret d_Mo_few_184 (Nat.le_of_ble_eq_true rfl) (Nat.le_of_ble_eq_true rfl) rfl
  · rw [if_neg c_10] at h
    refine zi_lload 2 d_Mo_few_164 rfl ?_
    refine zi_aload_n 0 d_Mo_few_166 rfl ?_
    obtain ⟨b_11, eb_11, h⟩ := zbind h
    refine zo_getR 170 zkd_11 47 d_Mo_few_167 eb_11 rfl tw_1278 rfl ?_
    refine zi_iload 3 d_Mo_few_170 rfl ?_
    obtain ⟨v_12, ev_12, h⟩ := zbind h
    refine zo_lald 173 d_Mo_few_172 ev_12 rfl ?_
    refine zi_ladd d_Mo_few_173 ?_
    refine zi_lstore [(4, .long (y4 + v_12)), (0, .ref a0), (1, .int x1), (6, .int x6)] d_Mo_few_174 (by decide) rfl ?_
    refine zi_iinc 3 (x6 + 1) [(6, .int (x6 + 1)), (4, .long (y4 + v_12)), (0, .ref a0), (1, .int x1)] d_Mo_few_176 rfl rfl (by decide) rfl ?_
    refine zi_goto (tgt := 158) d_Mo_few_179 rfl ?_
    refine zi_lo [(0, .ref a0), (1, .int x1), (4, .long (y4 + v_12)), (6, .int (x6 + 1))] [2, 3, 1, 0] rfl ?_
    exact hr158 a0 x1 (y4 + v_12) (x6 + 1) M h
theorem K_Mo_few_b158 (n : Nat) (E : zE) (S : zS) (a0 : Nat) (x1 : Int32) (y4 : Int64) (x6 : Int32) (M : zH) (r : Int64) (M' : zH)  (h : F_Mo_few_b158 n E S (a0, x1, y4, x6, M) = some (r, M')) : zG E Y_Mo_few (some (.long r), S, M') 158 [(0, .ref a0), (1, .int x1), (4, .long y4), (6, .int x6)] [] S M 0 0 := by
  have key : ∀ (k : Nat) (a0 : Nat) (x1 : Int32) (y4 : Int64) (x6 : Int32) (M : zH), zfix (fun r158 s => F_Mo_few_L158 n E S r158 s.1 s.2.1 s.2.2.1 s.2.2.2.1 s.2.2.2.2) k (a0, x1, y4, x6, M) = some (r, M') → zG E Y_Mo_few (some (.long r), S, M') 158 [(0, .ref a0), (1, .int x1), (4, .long y4), (6, .int x6)] [] S M 0 0 := by
    intro k
    induction k with
    | zero => intro a0 x1 y4 x6 M h; cases h
    | succ k ih => intro a0 x1 y4 x6 M h; exact K_Mo_few_L158 n E S _ a0 x1 y4 x6 M r M'  (fun a0 x1 y4 x6 M h => ih a0 x1 y4 x6 M h) h
  exact key n a0 x1 y4 x6 M h
theorem K_Mo_few_L75 (n : Nat) (E : zE) (S : zS) (r75 : Nat × Int32 × Int32 × Int32 × Int32 × zH → Option (Int64 × zH)) (a0 : Nat) (x1 : Int32) (x2 : Int32) (x3 : Int32) (x4 : Int32) (M : zH) (r : Int64) (M' : zH) (hr75 : ∀ (a0 : Nat) (x1 : Int32) (x2 : Int32) (x3 : Int32) (x4 : Int32) (M : zH), r75 (a0, x1, x2, x3, x4, M) = some (r, M') → zG E Y_Mo_few (some (.long r), S, M') 75 [(0, .ref a0), (1, .int x1), (2, .int x2), (3, .int x3), (4, .int x4)] [] S M 0 0) (h : F_Mo_few_L75 n E S r75 a0 x1 x2 x3 x4 M = some (r, M')) : zG E Y_Mo_few (some (.long r), S, M') 75 [(0, .ref a0), (1, .int x1), (2, .int x2), (3, .int x3), (4, .int x4)] [] S M 0 0 := by
  unfold F_Mo_few_L75 at h
  refine zi_iload 4 d_Mo_few_75 rfl ?_
  refine zi_iload_n 2 d_Mo_few_77 rfl ?_
  refine zi_icmp_ge (tgt := 152) d_Mo_few_78 rfl (fun c_13 => ?_) (fun c_13 => ?_)
  · rw [if_pos c_13] at h
    refine zi_lconst 0 d_Mo_few_152 rfl ?_
    refine zi_lstore [(4, .long 0), (0, .ref a0), (1, .int x1), (2, .int x2), (3, .int x3)] d_Mo_few_153 (by decide) rfl ?_
    refine zi_iconst 0 d_Mo_few_155 rfl ?_
    refine zi_istore [(6, .int 0), (4, .long 0), (0, .ref a0), (1, .int x1), (2, .int x2), (3, .int x3)] d_Mo_few_156 (by decide) rfl ?_
    refine zi_lo [(0, .ref a0), (1, .int x1), (4, .long 0), (6, .int 0)] [2, 3, 1, 0] rfl ?_
    exact K_Mo_few_b158 n E S a0 x1 0 0 M r M'  h
  · rw [if_neg c_13] at h
    refine zi_iload_n 1 d_Mo_few_81 rfl ?_
    refine zi_iconst 1 d_Mo_few_82 rfl ?_
    refine zi_isub d_Mo_few_83 ?_
    refine zi_istore [(5, .int (x1 - 1)), (0, .ref a0), (1, .int x1), (2, .int x2), (3, .int x3), (4, .int x4)] d_Mo_few_84 (by decide) rfl ?_
    refine zi_lo [(0, .ref a0), (1, .int x1), (2, .int x2), (3, .int x3), (4, .int x4), (5, .int (x1 - 1))] [1, 2, 3, 4, 5, 0] rfl ?_
    exact K_Mo_few_b86 n E S r75 a0 x1 x2 x3 x4 (x1 - 1) M r M' hr75 h
theorem K_Mo_few_b75 (n : Nat) (E : zE) (S : zS) (a0 : Nat) (x1 : Int32) (x2 : Int32) (x3 : Int32) (x4 : Int32) (M : zH) (r : Int64) (M' : zH)  (h : F_Mo_few_b75 n E S (a0, x1, x2, x3, x4, M) = some (r, M')) : zG E Y_Mo_few (some (.long r), S, M') 75 [(0, .ref a0), (1, .int x1), (2, .int x2), (3, .int x3), (4, .int x4)] [] S M 0 0 := by
  have key : ∀ (k : Nat) (a0 : Nat) (x1 : Int32) (x2 : Int32) (x3 : Int32) (x4 : Int32) (M : zH), zfix (fun r75 s => F_Mo_few_L75 n E S r75 s.1 s.2.1 s.2.2.1 s.2.2.2.1 s.2.2.2.2.1 s.2.2.2.2.2) k (a0, x1, x2, x3, x4, M) = some (r, M') → zG E Y_Mo_few (some (.long r), S, M') 75 [(0, .ref a0), (1, .int x1), (2, .int x2), (3, .int x3), (4, .int x4)] [] S M 0 0 := by
    intro k
    induction k with
    | zero => intro a0 x1 x2 x3 x4 M h; cases h
    | succ k ih => intro a0 x1 x2 x3 x4 M h; exact K_Mo_few_L75 n E S _ a0 x1 x2 x3 x4 M r M'  (fun a0 x1 x2 x3 x4 M h => ih a0 x1 x2 x3 x4 M h) h
  exact key n a0 x1 x2 x3 x4 M h
theorem K_Mo_few_L35 (n : Nat) (E : zE) (S : zS) (r35 : Nat × Int32 × Int32 × Int32 × zH → Option (Int64 × zH)) (a0 : Nat) (x1 : Int32) (x2 : Int32) (x3 : Int32) (M : zH) (r : Int64) (M' : zH) (hr35 : ∀ (a0 : Nat) (x1 : Int32) (x2 : Int32) (x3 : Int32) (M : zH), r35 (a0, x1, x2, x3, M) = some (r, M') → zG E Y_Mo_few (some (.long r), S, M') 35 [(0, .ref a0), (1, .int x1), (2, .int x2), (3, .int x3)] [] S M 0 0) (h : F_Mo_few_L35 n E S r35 a0 x1 x2 x3 M = some (r, M')) : zG E Y_Mo_few (some (.long r), S, M') 35 [(0, .ref a0), (1, .int x1), (2, .int x2), (3, .int x3)] [] S M 0 0 := by
  unfold F_Mo_few_L35 at h
  refine zi_iload_n 3 d_Mo_few_35 rfl ?_
  refine zi_bipush 21 d_Mo_few_36 rfl ?_
  refine zi_icmp_ge (tgt := 64) d_Mo_few_38 rfl (fun c_14 => ?_) (fun c_14 => ?_)
  · rw [if_pos c_14] at h
    refine zi_aload_n 0 d_Mo_few_64 rfl ?_
    obtain ⟨b_15, eb_15, h⟩ := zbind h
    refine zo_getR 68 zkd_11 3 d_Mo_few_65 eb_15 rfl tw_1234 rfl ?_
    refine zi_bipush 7 d_Mo_few_68 rfl ?_
    obtain ⟨v_16, ev_16, h⟩ := zbind h
    refine zo_iald 71 d_Mo_few_70 ev_16 rfl ?_
    refine zi_istore_n [(3, .int v_16), (0, .ref a0), (1, .int x1), (2, .int x2)] d_Mo_few_71 (by decide) rfl ?_
    refine zi_iconst 0 d_Mo_few_72 rfl ?_
    refine zi_istore [(4, .int 0), (3, .int v_16), (0, .ref a0), (1, .int x1), (2, .int x2)] d_Mo_few_73 (by decide) rfl ?_
    refine zi_lo [(0, .ref a0), (1, .int x1), (2, .int x2), (3, .int v_16), (4, .int 0)] [2, 3, 4, 1, 0] rfl ?_
    exact K_Mo_few_b75 n E S a0 x1 x2 v_16 0 M r M'  h
  · rw [if_neg c_14] at h
    refine zi_aload_n 0 d_Mo_few_41 rfl ?_
    obtain ⟨b_17, eb_17, h⟩ := zbind h
    refine zo_getR 45 zkd_11 47 d_Mo_few_42 eb_17 rfl tw_1278 rfl ?_
    refine zi_iload_n 3 d_Mo_few_45 rfl ?_
    refine zi_iload_n 3 d_Mo_few_46 rfl ?_
    refine zi_if_ne (tgt := 56) d_Mo_few_47 rfl (fun c_18 => ?_) (fun c_18 => ?_)
    · rw [if_neg c_18] at h
      refine zi_lconst 0 d_Mo_few_56 rfl ?_
      refine zi_lo [(0, .ref a0), (1, .int x1), (2, .int x2), (3, .int x3)] [0, 1, 2, 3] rfl ?_
      exact K_Mo_few_b57 n E S r35 a0 x1 x2 x3 0 x3 b_17 M r M' hr35 h
    · rw [if_pos c_18] at h
      refine zi_ldc2 d_Mo_few_50 tw_1841 ?_
      refine zi_goto (tgt := 57) d_Mo_few_53 rfl ?_
      refine zi_lo [(0, .ref a0), (1, .int x1), (2, .int x2), (3, .int x3)] [0, 1, 2, 3] rfl ?_
      exact K_Mo_few_b57 n E S r35 a0 x1 x2 x3 1000000000000 x3 b_17 M r M' hr35 h
theorem K_Mo_few_b35 (n : Nat) (E : zE) (S : zS) (a0 : Nat) (x1 : Int32) (x2 : Int32) (x3 : Int32) (M : zH) (r : Int64) (M' : zH)  (h : F_Mo_few_b35 n E S (a0, x1, x2, x3, M) = some (r, M')) : zG E Y_Mo_few (some (.long r), S, M') 35 [(0, .ref a0), (1, .int x1), (2, .int x2), (3, .int x3)] [] S M 0 0 := by
  have key : ∀ (k : Nat) (a0 : Nat) (x1 : Int32) (x2 : Int32) (x3 : Int32) (M : zH), zfix (fun r35 s => F_Mo_few_L35 n E S r35 s.1 s.2.1 s.2.2.1 s.2.2.2.1 s.2.2.2.2) k (a0, x1, x2, x3, M) = some (r, M') → zG E Y_Mo_few (some (.long r), S, M') 35 [(0, .ref a0), (1, .int x1), (2, .int x2), (3, .int x3)] [] S M 0 0 := by
    intro k
    induction k with
    | zero => intro a0 x1 x2 x3 M h; cases h
    | succ k ih => intro a0 x1 x2 x3 M h; exact K_Mo_few_L35 n E S _ a0 x1 x2 x3 M r M'  (fun a0 x1 x2 x3 M h => ih a0 x1 x2 x3 M h) h
  exact key n a0 x1 x2 x3 M h
theorem K_Mo_few (n : Nat) (E : zE) (S : zS) (a0 : Nat) (x1 : Int32) (x2 : Int32) (M : zH) (r : Int64) (M' : zH)  (h : F_Mo_few n E S a0 x1 x2 M = some (r, M')) : zG E Y_Mo_few (some (.long r), S, M') 0 [(0, .ref a0), (1, .int x1), (2, .int x2)] [] S M 0 0 := by
  unfold F_Mo_few at h
  refine zi_aload_n 0 d_Mo_few_0 rfl ?_
  refine zi_iconst 0 d_Mo_few_1 rfl ?_
  obtain ⟨m_19, em_19, h⟩ := zbind h
  refine zo_putI 5 zkd_11 0 d_Mo_few_2 em_19 rfl rfl rfl tw_1231 rfl ?_
  refine zi_iload_n 1 d_Mo_few_5 rfl ?_
  refine zi_i2l d_Mo_few_6 ?_
  refine zi_lconst 1 d_Mo_few_7 rfl ?_
  refine zi_ldc2 d_Mo_few_8 tw_1668 ?_
  obtain ⟨q_20, eq_20, h⟩ := zbind h
  refine zo_stat (k' := 0) (n' := 0) 14 [.long x1.toInt64, .long 1, .long 20] [] [.int (bI q_20.1)] (C_Mo_in n E S x1.toInt64 1 20 m_19 q_20.1 q_20.2 eq_20) d_Mo_few_11 tw_1421 tw_1419 tw_1420 tw_13 dd_Mo_in ⟨Nat.le_of_ble_eq_true rfl, Nat.le_of_ble_eq_true rfl, Nat.le_of_ble_eq_true rfl, Nat.le_of_ble_eq_true rfl⟩ (Nat.le_of_ble_eq_true rfl) rfl rfl rfl rfl ?_
  refine zo_ifeqB d_Mo_few_14 rfl 17 rfl (fun c_21 => ?_) (fun c_21 => ?_)
  · rw [if_neg c_21] at h
    refine zi_lo [] [] rfl ?_
    exact K_Mo_few_b29 n E S  q_20.2 r M'  h
  · rw [if_pos c_21] at h
    refine zi_iload_n 2 d_Mo_few_17 rfl ?_
    refine zi_i2l d_Mo_few_18 ?_
    refine zi_lconst 0 d_Mo_few_19 rfl ?_
    refine zi_ldc2 d_Mo_few_20 tw_1487 ?_
    obtain ⟨q_22, eq_22, h⟩ := zbind h
    refine zo_stat (k' := 0) (n' := 0) 26 [.long x2.toInt64, .long 0, .long 99] [] [.int (bI q_22.1)] (C_Mo_in n E S x2.toInt64 0 99 q_20.2 q_22.1 q_22.2 eq_22) d_Mo_few_23 tw_1421 tw_1419 tw_1420 tw_13 dd_Mo_in ⟨Nat.le_of_ble_eq_true rfl, Nat.le_of_ble_eq_true rfl, Nat.le_of_ble_eq_true rfl, Nat.le_of_ble_eq_true rfl⟩ (Nat.le_of_ble_eq_true rfl) rfl rfl rfl rfl ?_
    refine zo_ifneB d_Mo_few_26 rfl 29 rfl (fun c_23 => ?_) (fun c_23 => ?_)
    · rw [if_pos c_23] at h
      refine zi_iconst 0 d_Mo_few_33 rfl ?_
      refine zi_istore_n [(3, .int 0), (0, .ref a0), (1, .int x1), (2, .int x2)] d_Mo_few_34 (by decide) rfl ?_
      refine zi_lo [(0, .ref a0), (1, .int x1), (2, .int x2), (3, .int 0)] [1, 2, 3, 0] rfl ?_
      exact K_Mo_few_b35 n E S a0 x1 x2 0 q_22.2 r M'  h
    · rw [if_neg c_23] at h
      refine zi_lo [] [] rfl ?_
      exact K_Mo_few_b29 n E S  q_22.2 r M'  h
theorem C_Mo_few (n : Nat) (E : zE) (S : zS) (a0 : Nat) (x1 : Int32) (x2 : Int32) (M : zH) (r : Int64) (M' : zH) (h : F_Mo_few n E S a0 x1 x2 M = some (r, M')) : zC E Y_Mo_few [.ref a0, .int x1, .int x2] S M (some (.long r), S, M') :=
  zC.of (Or.inl (show plainName "NightColanderModel" = true by decide)) (Nat.le_of_ble_eq_true rfl) (trivial) (K_Mo_few n E S a0 x1 x2 M r M' h)
