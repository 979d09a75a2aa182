/-! METHODS (printed by gen/build.py): Mo_stopped Mo_draw Mo_years Mo_drawn Mo_blockedOnes Mo_count Mo_status -/
theorem d_Mo_stopped_0 : decode (yB Y_Mo_stopped) 0 = .ok (.aload_n 0, 1) := by decide +kernel
theorem d_Mo_stopped_1 : decode (yB Y_Mo_stopped) 1 = .ok (.iconst 0, 1) := by decide +kernel
theorem d_Mo_stopped_2 : decode (yB Y_Mo_stopped) 2 = .ok (.putfield 156, 3) := by decide +kernel
theorem d_Mo_stopped_5 : decode (yB Y_Mo_stopped) 5 = .ok (.aload_n 0, 1) := by decide +kernel
theorem d_Mo_stopped_6 : decode (yB Y_Mo_stopped) 6 = .ok (.getfield 147, 3) := by decide +kernel
theorem d_Mo_stopped_9 : decode (yB Y_Mo_stopped) 9 = .ok (.ireturn, 1) := by decide +kernel
def F_Mo_stopped (n : Nat) (E : zE) (S : zS) (a0 : Nat) (M : zH) : Option (Int32 × zH) :=
  (zpI S M a0 11 0 0).bind fun m_1 =>
  (zgI S m_1 a0 11 52).bind fun v_2 =>
  some (v_2, m_1)
theorem K_Mo_stopped (n : Nat) (E : zE) (S : zS) (a0 : Nat) (M : zH) (r : Int32) (M' : zH)  (h : F_Mo_stopped n E S a0 M = some (r, M')) : zG E Y_Mo_stopped (some (.int r), S, M') 0 [(0, .ref a0)] [] S M 0 0 := by
  unfold F_Mo_stopped at h
  refine zi_aload_n 0 d_Mo_stopped_0 rfl ?_
  refine zi_iconst 0 d_Mo_stopped_1 rfl ?_
  obtain ⟨m_1, em_1, h⟩ := zbind h
  refine zo_putI 5 zkd_11 0 d_Mo_stopped_2 em_1 rfl rfl rfl tw_1231 rfl ?_
  refine zi_aload_n 0 d_Mo_stopped_5 rfl ?_
  obtain ⟨v_2, ev_2, h⟩ := zbind h
  refine zo_getI 9 zkd_11 52 d_Mo_stopped_6 ev_2 rfl tw_1283 rfl ?_
  cases h
  exact zo_ret d_Mo_stopped_9 (Nat.le_of_ble_eq_true rfl) (Nat.le_of_ble_eq_true rfl) rfl
theorem C_Mo_stopped (n : Nat) (E : zE) (S : zS) (a0 : Nat) (M : zH) (r : Int32) (M' : zH) (h : F_Mo_stopped n E S a0 M = some (r, M')) : zC E Y_Mo_stopped [.ref a0] S M (some (.int r), S, M') :=
  zC.of (Or.inl (show plainName "NightColanderModel" = true by decide)) (Nat.le_of_ble_eq_true rfl) (trivial) (K_Mo_stopped n E S a0 M r M' h)
theorem d_Mo_draw_0 : decode (yB Y_Mo_draw) 0 = .ok (.aload_n 0, 1) := by decide +kernel
theorem d_Mo_draw_1 : decode (yB Y_Mo_draw) 1 = .ok (.aload_n 0, 1) := by decide +kernel
theorem d_Mo_draw_2 : decode (yB Y_Mo_draw) 2 = .ok (.getfield 541, 3) := by decide +kernel
theorem d_Mo_draw_5 : decode (yB Y_Mo_draw) 5 = .ok (.ldc2_w 544, 3) := by decide +kernel
theorem d_Mo_draw_8 : decode (yB Y_Mo_draw) 8 = .ok (.lmul, 1) := by decide +kernel
theorem d_Mo_draw_9 : decode (yB Y_Mo_draw) 9 = .ok (.ldc2_w 546, 3) := by decide +kernel
theorem d_Mo_draw_12 : decode (yB Y_Mo_draw) 12 = .ok (.ladd, 1) := by decide +kernel
theorem d_Mo_draw_13 : decode (yB Y_Mo_draw) 13 = .ok (.ldc2_w 548, 3) := by decide +kernel
theorem d_Mo_draw_16 : decode (yB Y_Mo_draw) 16 = .ok (.lrem, 1) := by decide +kernel
theorem d_Mo_draw_17 : decode (yB Y_Mo_draw) 17 = .ok (.putfield 541, 3) := by decide +kernel
theorem d_Mo_draw_20 : decode (yB Y_Mo_draw) 20 = .ok (.aload_n 0, 1) := by decide +kernel
theorem d_Mo_draw_21 : decode (yB Y_Mo_draw) 21 = .ok (.getfield 541, 3) := by decide +kernel
theorem d_Mo_draw_24 : decode (yB Y_Mo_draw) 24 = .ok (.iload_n 1, 1) := by decide +kernel
theorem d_Mo_draw_25 : decode (yB Y_Mo_draw) 25 = .ok (.i2l, 1) := by decide +kernel
theorem d_Mo_draw_26 : decode (yB Y_Mo_draw) 26 = .ok (.lrem, 1) := by decide +kernel
theorem d_Mo_draw_27 : decode (yB Y_Mo_draw) 27 = .ok (.l2i, 1) := by decide +kernel
theorem d_Mo_draw_28 : decode (yB Y_Mo_draw) 28 = .ok (.ireturn, 1) := by decide +kernel
def F_Mo_draw (n : Nat) (E : zE) (S : zS) (a0 : Nat) (x1 : Int32) (M : zH) : Option (Int32 × zH) :=
  (zgJ S M a0 11 54).bind fun v_1 =>
  (zremJ ((v_1 * 1103) + 12345) 1000003).bind fun v_2 =>
  (zpJ S M a0 11 54 v_2).bind fun m_3 =>
  (zgJ S m_3 a0 11 54).bind fun v_4 =>
  (zremJ v_4 x1.toInt64).bind fun v_5 =>
  some (v_5.toInt32, m_3)
theorem K_Mo_draw (n : Nat) (E : zE) (S : zS) (a0 : Nat) (x1 : Int32) (M : zH) (r : Int32) (M' : zH)  (h : F_Mo_draw n E S a0 x1 M = some (r, M')) : zG E Y_Mo_draw (some (.int r), S, M') 0 [(0, .ref a0), (1, .int x1)] [] S M 0 0 := by
  unfold F_Mo_draw at h
  refine zi_aload_n 0 d_Mo_draw_0 rfl ?_
  refine zi_aload_n 0 d_Mo_draw_1 rfl ?_
  obtain ⟨v_1, ev_1, h⟩ := zbind h
  refine zo_getJ 5 zkd_11 54 d_Mo_draw_2 ev_1 rfl tw_1285 rfl ?_
  refine zi_ldc2 d_Mo_draw_5 tw_1894 ?_
  refine zi_lmul d_Mo_draw_8 ?_
  refine zi_ldc2 d_Mo_draw_9 tw_1895 ?_
  refine zi_ladd d_Mo_draw_12 ?_
  refine zi_ldc2 d_Mo_draw_13 tw_1896 ?_
  obtain ⟨v_2, ev_2, h⟩ := zbind h
  refine zo_lrem 17 d_Mo_draw_16 ev_2 rfl ?_
  obtain ⟨m_3, em_3, h⟩ := zbind h
  refine zo_putJ 20 zkd_11 54 d_Mo_draw_17 em_3 rfl rfl rfl tw_1285 rfl ?_
  refine zi_aload_n 0 d_Mo_draw_20 rfl ?_
  obtain ⟨v_4, ev_4, h⟩ := zbind h
  refine zo_getJ 24 zkd_11 54 d_Mo_draw_21 ev_4 rfl tw_1285 rfl ?_
  refine zi_iload_n 1 d_Mo_draw_24 rfl ?_
  refine zi_i2l d_Mo_draw_25 ?_
  obtain ⟨v_5, ev_5, h⟩ := zbind h
  refine zo_lrem 27 d_Mo_draw_26 ev_5 rfl ?_
  refine zi_l2i d_Mo_draw_27 ?_
  cases h
  exact zo_ret d_Mo_draw_28 (Nat.le_of_ble_eq_true rfl) (Nat.le_of_ble_eq_true rfl) rfl
theorem C_Mo_draw (n : Nat) (E : zE) (S : zS) (a0 : Nat) (x1 : Int32) (M : zH) (r : Int32) (M' : zH) (h : F_Mo_draw n E S a0 x1 M = some (r, M')) : zC E Y_Mo_draw [.ref a0, .int x1] S M (some (.int r), S, M') :=
  zC.of (Or.inl (show plainName "NightColanderModel" = true by decide)) (Nat.le_of_ble_eq_true rfl) (trivial) (K_Mo_draw n E S a0 x1 M r M' h)
theorem d_Mo_years_0 : decode (yB Y_Mo_years) 0 = .ok (.aload_n 0, 1) := by decide +kernel
theorem d_Mo_years_1 : decode (yB Y_Mo_years) 1 = .ok (.iconst 0, 1) := by decide +kernel
theorem d_Mo_years_2 : decode (yB Y_Mo_years) 2 = .ok (.putfield 156, 3) := by decide +kernel
theorem d_Mo_years_5 : decode (yB Y_Mo_years) 5 = .ok (.iload_n 1, 1) := by decide +kernel
theorem d_Mo_years_6 : decode (yB Y_Mo_years) 6 = .ok (.i2l, 1) := by decide +kernel
theorem d_Mo_years_7 : decode (yB Y_Mo_years) 7 = .ok (.lconst 0, 1) := by decide +kernel
theorem d_Mo_years_8 : decode (yB Y_Mo_years) 8 = .ok (.ldc2_w 283, 3) := by decide +kernel
theorem d_Mo_years_11 : decode (yB Y_Mo_years) 11 = .ok (.invokestatic 176, 3) := by decide +kernel
theorem d_Mo_years_14 : decode (yB Y_Mo_years) 14 = .ok (.ifCond .eq 15, 3) := by decide +kernel
theorem d_Mo_years_17 : decode (yB Y_Mo_years) 17 = .ok (.iload_n 2, 1) := by decide +kernel
theorem d_Mo_years_18 : decode (yB Y_Mo_years) 18 = .ok (.i2l, 1) := by decide +kernel
theorem d_Mo_years_19 : decode (yB Y_Mo_years) 19 = .ok (.lconst 1, 1) := by decide +kernel
theorem d_Mo_years_20 : decode (yB Y_Mo_years) 20 = .ok (.ldc2_w 550, 3) := by decide +kernel
theorem d_Mo_years_23 : decode (yB Y_Mo_years) 23 = .ok (.invokestatic 176, 3) := by decide +kernel
theorem d_Mo_years_26 : decode (yB Y_Mo_years) 26 = .ok (.ifCond .ne 9, 3) := by decide +kernel
theorem d_Mo_years_29 : decode (yB Y_Mo_years) 29 = .ok (.aload_n 0, 1) := by decide +kernel
theorem d_Mo_years_30 : decode (yB Y_Mo_years) 30 = .ok (.iconst (-1), 1) := by decide +kernel
theorem d_Mo_years_31 : decode (yB Y_Mo_years) 31 = .ok (.invokevirtual 165, 3) := by decide +kernel
theorem d_Mo_years_34 : decode (yB Y_Mo_years) 34 = .ok (.ireturn, 1) := by decide +kernel
theorem d_Mo_years_35 : decode (yB Y_Mo_years) 35 = .ok (.aload_n 0, 1) := by decide +kernel
theorem d_Mo_years_36 : decode (yB Y_Mo_years) 36 = .ok (.bipush 16, 2) := by decide +kernel
theorem d_Mo_years_38 : decode (yB Y_Mo_years) 38 = .ok (.invokevirtual 169, 3) := by decide +kernel
theorem d_Mo_years_41 : decode (yB Y_Mo_years) 41 = .ok (.aload_n 0, 1) := by decide +kernel
theorem d_Mo_years_42 : decode (yB Y_Mo_years) 42 = .ok (.iload_n 1, 1) := by decide +kernel
theorem d_Mo_years_43 : decode (yB Y_Mo_years) 43 = .ok (.i2l, 1) := by decide +kernel
theorem d_Mo_years_44 : decode (yB Y_Mo_years) 44 = .ok (.putfield 541, 3) := by decide +kernel
theorem d_Mo_years_47 : decode (yB Y_Mo_years) 47 = .ok (.iconst 0, 1) := by decide +kernel
theorem d_Mo_years_48 : decode (yB Y_Mo_years) 48 = .ok (.istore_n 3, 1) := by decide +kernel
theorem d_Mo_years_49 : decode (yB Y_Mo_years) 49 = .ok (.iconst 0, 1) := by decide +kernel
theorem d_Mo_years_50 : decode (yB Y_Mo_years) 50 = .ok (.istore 4, 2) := by decide +kernel
theorem d_Mo_years_52 : decode (yB Y_Mo_years) 52 = .ok (.iload 4, 2) := by decide +kernel
theorem d_Mo_years_54 : decode (yB Y_Mo_years) 54 = .ok (.iload_n 2, 1) := by decide +kernel
theorem d_Mo_years_55 : decode (yB Y_Mo_years) 55 = .ok (.if_icmp .ge 127, 3) := by decide +kernel
theorem d_Mo_years_58 : decode (yB Y_Mo_years) 58 = .ok (.aload_n 0, 1) := by decide +kernel
theorem d_Mo_years_59 : decode (yB Y_Mo_years) 59 = .ok (.getfield 13, 3) := by decide +kernel
theorem d_Mo_years_62 : decode (yB Y_Mo_years) 62 = .ok (.iconst 4, 1) := by decide +kernel
theorem d_Mo_years_63 : decode (yB Y_Mo_years) 63 = .ok (.iaload, 1) := by decide +kernel
theorem d_Mo_years_64 : decode (yB Y_Mo_years) 64 = .ok (.sipush 999, 3) := by decide +kernel
theorem d_Mo_years_67 : decode (yB Y_Mo_years) 67 = .ok (.if_icmp .ge 115, 3) := by decide +kernel
theorem d_Mo_years_70 : decode (yB Y_Mo_years) 70 = .ok (.aload_n 0, 1) := by decide +kernel
theorem d_Mo_years_71 : decode (yB Y_Mo_years) 71 = .ok (.iconst 4, 1) := by decide +kernel
theorem d_Mo_years_72 : decode (yB Y_Mo_years) 72 = .ok (.invokevirtual 552, 3) := by decide +kernel
theorem d_Mo_years_75 : decode (yB Y_Mo_years) 75 = .ok (.istore 5, 2) := by decide +kernel
theorem d_Mo_years_77 : decode (yB Y_Mo_years) 77 = .ok (.aload_n 0, 1) := by decide +kernel
theorem d_Mo_years_78 : decode (yB Y_Mo_years) 78 = .ok (.bipush 8, 2) := by decide +kernel
theorem d_Mo_years_80 : decode (yB Y_Mo_years) 80 = .ok (.invokevirtual 552, 3) := by decide +kernel
theorem d_Mo_years_83 : decode (yB Y_Mo_years) 83 = .ok (.istore 6, 2) := by decide +kernel
theorem d_Mo_years_85 : decode (yB Y_Mo_years) 85 = .ok (.aload_n 0, 1) := by decide +kernel
theorem d_Mo_years_86 : decode (yB Y_Mo_years) 86 = .ok (.iconst 3, 1) := by decide +kernel
theorem d_Mo_years_87 : decode (yB Y_Mo_years) 87 = .ok (.invokevirtual 552, 3) := by decide +kernel
theorem d_Mo_years_90 : decode (yB Y_Mo_years) 90 = .ok (.istore 7, 2) := by decide +kernel
theorem d_Mo_years_92 : decode (yB Y_Mo_years) 92 = .ok (.aload_n 0, 1) := by decide +kernel
theorem d_Mo_years_93 : decode (yB Y_Mo_years) 93 = .ok (.getfield 13, 3) := by decide +kernel
theorem d_Mo_years_96 : decode (yB Y_Mo_years) 96 = .ok (.bipush 44, 2) := by decide +kernel
theorem d_Mo_years_98 : decode (yB Y_Mo_years) 98 = .ok (.iload 5, 2) := by decide +kernel
theorem d_Mo_years_100 : decode (yB Y_Mo_years) 100 = .ok (.iadd, 1) := by decide +kernel
theorem d_Mo_years_101 : decode (yB Y_Mo_years) 101 = .ok (.dup2, 1) := by decide +kernel
theorem d_Mo_years_102 : decode (yB Y_Mo_years) 102 = .ok (.iaload, 1) := by decide +kernel
theorem d_Mo_years_103 : decode (yB Y_Mo_years) 103 = .ok (.iload 7, 2) := by decide +kernel
theorem d_Mo_years_105 : decode (yB Y_Mo_years) 105 = .ok (.ifCond .ne 10, 3) := by decide +kernel
theorem d_Mo_years_108 : decode (yB Y_Mo_years) 108 = .ok (.iconst 1, 1) := by decide +kernel
theorem d_Mo_years_109 : decode (yB Y_Mo_years) 109 = .ok (.iload 6, 2) := by decide +kernel
theorem d_Mo_years_111 : decode (yB Y_Mo_years) 111 = .ok (.ishl, 1) := by decide +kernel
theorem d_Mo_years_112 : decode (yB Y_Mo_years) 112 = .ok (.goto 4, 3) := by decide +kernel
theorem d_Mo_years_115 : decode (yB Y_Mo_years) 115 = .ok (.iconst 0, 1) := by decide +kernel
theorem d_Mo_years_116 : decode (yB Y_Mo_years) 116 = .ok (.ixor, 1) := by decide +kernel
theorem d_Mo_years_117 : decode (yB Y_Mo_years) 117 = .ok (.iastore, 1) := by decide +kernel
theorem d_Mo_years_118 : decode (yB Y_Mo_years) 118 = .ok (.aload_n 0, 1) := by decide +kernel
theorem d_Mo_years_119 : decode (yB Y_Mo_years) 119 = .ok (.getfield 13, 3) := by decide +kernel
theorem d_Mo_years_122 : decode (yB Y_Mo_years) 122 = .ok (.bipush 12, 2) := by decide +kernel
theorem d_Mo_years_124 : decode (yB Y_Mo_years) 124 = .ok (.bipush 8, 2) := by decide +kernel
theorem d_Mo_years_126 : decode (yB Y_Mo_years) 126 = .ok (.iload 5, 2) := by decide +kernel
theorem d_Mo_years_128 : decode (yB Y_Mo_years) 128 = .ok (.imul, 1) := by decide +kernel
theorem d_Mo_years_129 : decode (yB Y_Mo_years) 129 = .ok (.iadd, 1) := by decide +kernel
theorem d_Mo_years_130 : decode (yB Y_Mo_years) 130 = .ok (.iload 6, 2) := by decide +kernel
theorem d_Mo_years_132 : decode (yB Y_Mo_years) 132 = .ok (.iadd, 1) := by decide +kernel
theorem d_Mo_years_133 : decode (yB Y_Mo_years) 133 = .ok (.dup2, 1) := by decide +kernel
theorem d_Mo_years_134 : decode (yB Y_Mo_years) 134 = .ok (.iaload, 1) := by decide +kernel
theorem d_Mo_years_135 : decode (yB Y_Mo_years) 135 = .ok (.iload 7, 2) := by decide +kernel
theorem d_Mo_years_137 : decode (yB Y_Mo_years) 137 = .ok (.iconst 1, 1) := by decide +kernel
theorem d_Mo_years_138 : decode (yB Y_Mo_years) 138 = .ok (.if_icmp .ne 28, 3) := by decide +kernel
theorem d_Mo_years_141 : decode (yB Y_Mo_years) 141 = .ok (.aload_n 0, 1) := by decide +kernel
theorem d_Mo_years_142 : decode (yB Y_Mo_years) 142 = .ok (.getfield 13, 3) := by decide +kernel
theorem d_Mo_years_145 : decode (yB Y_Mo_years) 145 = .ok (.bipush 12, 2) := by decide +kernel
theorem d_Mo_years_147 : decode (yB Y_Mo_years) 147 = .ok (.bipush 8, 2) := by decide +kernel
theorem d_Mo_years_149 : decode (yB Y_Mo_years) 149 = .ok (.iload 5, 2) := by decide +kernel
theorem d_Mo_years_151 : decode (yB Y_Mo_years) 151 = .ok (.imul, 1) := by decide +kernel
theorem d_Mo_years_152 : decode (yB Y_Mo_years) 152 = .ok (.iadd, 1) := by decide +kernel
theorem d_Mo_years_153 : decode (yB Y_Mo_years) 153 = .ok (.iload 6, 2) := by decide +kernel
theorem d_Mo_years_155 : decode (yB Y_Mo_years) 155 = .ok (.iadd, 1) := by decide +kernel
theorem d_Mo_years_156 : decode (yB Y_Mo_years) 156 = .ok (.iaload, 1) := by decide +kernel
theorem d_Mo_years_157 : decode (yB Y_Mo_years) 157 = .ok (.bipush 9, 2) := by decide +kernel
theorem d_Mo_years_159 : decode (yB Y_Mo_years) 159 = .ok (.if_icmp .ge 7, 3) := by decide +kernel
theorem d_Mo_years_162 : decode (yB Y_Mo_years) 162 = .ok (.iconst 1, 1) := by decide +kernel
theorem d_Mo_years_163 : decode (yB Y_Mo_years) 163 = .ok (.goto 4, 3) := by decide +kernel
theorem d_Mo_years_166 : decode (yB Y_Mo_years) 166 = .ok (.iconst 0, 1) := by decide +kernel
theorem d_Mo_years_167 : decode (yB Y_Mo_years) 167 = .ok (.iadd, 1) := by decide +kernel
theorem d_Mo_years_168 : decode (yB Y_Mo_years) 168 = .ok (.iastore, 1) := by decide +kernel
theorem d_Mo_years_169 : decode (yB Y_Mo_years) 169 = .ok (.iload_n 3, 1) := by decide +kernel
theorem d_Mo_years_170 : decode (yB Y_Mo_years) 170 = .ok (.aload_n 0, 1) := by decide +kernel
theorem d_Mo_years_171 : decode (yB Y_Mo_years) 171 = .ok (.invokevirtual 466, 3) := by decide +kernel
theorem d_Mo_years_174 : decode (yB Y_Mo_years) 174 = .ok (.iadd, 1) := by decide +kernel
theorem d_Mo_years_175 : decode (yB Y_Mo_years) 175 = .ok (.istore_n 3, 1) := by decide +kernel
theorem d_Mo_years_176 : decode (yB Y_Mo_years) 176 = .ok (.iinc 4 1, 3) := by decide +kernel
theorem d_Mo_years_179 : decode (yB Y_Mo_years) 179 = .ok (.goto (-127), 3) := by decide +kernel
theorem d_Mo_years_182 : decode (yB Y_Mo_years) 182 = .ok (.iconst 0, 1) := by decide +kernel
theorem d_Mo_years_183 : decode (yB Y_Mo_years) 183 = .ok (.istore 4, 2) := by decide +kernel
theorem d_Mo_years_185 : decode (yB Y_Mo_years) 185 = .ok (.iload 4, 2) := by decide +kernel
theorem d_Mo_years_187 : decode (yB Y_Mo_years) 187 = .ok (.iconst 4, 1) := by decide +kernel
theorem d_Mo_years_188 : decode (yB Y_Mo_years) 188 = .ok (.if_icmp .ge 78, 3) := by decide +kernel
theorem d_Mo_years_191 : decode (yB Y_Mo_years) 191 = .ok (.aload_n 0, 1) := by decide +kernel
theorem d_Mo_years_192 : decode (yB Y_Mo_years) 192 = .ok (.getfield 150, 3) := by decide +kernel
theorem d_Mo_years_195 : decode (yB Y_Mo_years) 195 = .ok (.iload 4, 2) := by decide +kernel
theorem d_Mo_years_197 : decode (yB Y_Mo_years) 197 = .ok (.iconst 0, 1) := by decide +kernel
theorem d_Mo_years_198 : decode (yB Y_Mo_years) 198 = .ok (.iastore, 1) := by decide +kernel
theorem d_Mo_years_199 : decode (yB Y_Mo_years) 199 = .ok (.iconst 0, 1) := by decide +kernel
theorem d_Mo_years_200 : decode (yB Y_Mo_years) 200 = .ok (.istore 5, 2) := by decide +kernel
theorem d_Mo_years_202 : decode (yB Y_Mo_years) 202 = .ok (.iload 5, 2) := by decide +kernel
theorem d_Mo_years_204 : decode (yB Y_Mo_years) 204 = .ok (.bipush 8, 2) := by decide +kernel
theorem d_Mo_years_206 : decode (yB Y_Mo_years) 206 = .ok (.if_icmp .ge 35, 3) := by decide +kernel
theorem d_Mo_years_209 : decode (yB Y_Mo_years) 209 = .ok (.aload_n 0, 1) := by decide +kernel
theorem d_Mo_years_210 : decode (yB Y_Mo_years) 210 = .ok (.getfield 150, 3) := by decide +kernel
theorem d_Mo_years_213 : decode (yB Y_Mo_years) 213 = .ok (.iload 4, 2) := by decide +kernel
theorem d_Mo_years_215 : decode (yB Y_Mo_years) 215 = .ok (.dup2, 1) := by decide +kernel
theorem d_Mo_years_216 : decode (yB Y_Mo_years) 216 = .ok (.iaload, 1) := by decide +kernel
theorem d_Mo_years_217 : decode (yB Y_Mo_years) 217 = .ok (.aload_n 0, 1) := by decide +kernel
theorem d_Mo_years_218 : decode (yB Y_Mo_years) 218 = .ok (.getfield 13, 3) := by decide +kernel
theorem d_Mo_years_221 : decode (yB Y_Mo_years) 221 = .ok (.bipush 12, 2) := by decide +kernel
theorem d_Mo_years_223 : decode (yB Y_Mo_years) 223 = .ok (.bipush 8, 2) := by decide +kernel
theorem d_Mo_years_225 : decode (yB Y_Mo_years) 225 = .ok (.iload 4, 2) := by decide +kernel
theorem d_Mo_years_227 : decode (yB Y_Mo_years) 227 = .ok (.imul, 1) := by decide +kernel
theorem d_Mo_years_228 : decode (yB Y_Mo_years) 228 = .ok (.iadd, 1) := by decide +kernel
theorem d_Mo_years_229 : decode (yB Y_Mo_years) 229 = .ok (.iload 5, 2) := by decide +kernel
theorem d_Mo_years_231 : decode (yB Y_Mo_years) 231 = .ok (.iadd, 1) := by decide +kernel
theorem d_Mo_years_232 : decode (yB Y_Mo_years) 232 = .ok (.iaload, 1) := by decide +kernel
theorem d_Mo_years_233 : decode (yB Y_Mo_years) 233 = .ok (.iadd, 1) := by decide +kernel
theorem d_Mo_years_234 : decode (yB Y_Mo_years) 234 = .ok (.iastore, 1) := by decide +kernel
theorem d_Mo_years_235 : decode (yB Y_Mo_years) 235 = .ok (.iinc 5 1, 3) := by decide +kernel
theorem d_Mo_years_238 : decode (yB Y_Mo_years) 238 = .ok (.goto (-36), 3) := by decide +kernel
theorem d_Mo_years_241 : decode (yB Y_Mo_years) 241 = .ok (.aload_n 0, 1) := by decide +kernel
theorem d_Mo_years_242 : decode (yB Y_Mo_years) 242 = .ok (.getfield 150, 3) := by decide +kernel
theorem d_Mo_years_245 : decode (yB Y_Mo_years) 245 = .ok (.iconst 4, 1) := by decide +kernel
theorem d_Mo_years_246 : decode (yB Y_Mo_years) 246 = .ok (.iload 4, 2) := by decide +kernel
theorem d_Mo_years_248 : decode (yB Y_Mo_years) 248 = .ok (.iadd, 1) := by decide +kernel
theorem d_Mo_years_249 : decode (yB Y_Mo_years) 249 = .ok (.aload_n 0, 1) := by decide +kernel
theorem d_Mo_years_250 : decode (yB Y_Mo_years) 250 = .ok (.getfield 13, 3) := by decide +kernel
theorem d_Mo_years_253 : decode (yB Y_Mo_years) 253 = .ok (.bipush 8, 2) := by decide +kernel
theorem d_Mo_years_255 : decode (yB Y_Mo_years) 255 = .ok (.iload 4, 2) := by decide +kernel
theorem d_Mo_years_257 : decode (yB Y_Mo_years) 257 = .ok (.iadd, 1) := by decide +kernel
theorem d_Mo_years_258 : decode (yB Y_Mo_years) 258 = .ok (.iaload, 1) := by decide +kernel
theorem d_Mo_years_259 : decode (yB Y_Mo_years) 259 = .ok (.iastore, 1) := by decide +kernel
theorem d_Mo_years_260 : decode (yB Y_Mo_years) 260 = .ok (.iinc 4 1, 3) := by decide +kernel
theorem d_Mo_years_263 : decode (yB Y_Mo_years) 263 = .ok (.goto (-78), 3) := by decide +kernel
theorem d_Mo_years_266 : decode (yB Y_Mo_years) 266 = .ok (.aload_n 0, 1) := by decide +kernel
theorem d_Mo_years_267 : decode (yB Y_Mo_years) 267 = .ok (.aload_n 0, 1) := by decide +kernel
theorem d_Mo_years_268 : decode (yB Y_Mo_years) 268 = .ok (.getfield 13, 3) := by decide +kernel
theorem d_Mo_years_271 : decode (yB Y_Mo_years) 271 = .ok (.iconst 0, 1) := by decide +kernel
theorem d_Mo_years_272 : decode (yB Y_Mo_years) 272 = .ok (.iaload, 1) := by decide +kernel
theorem d_Mo_years_273 : decode (yB Y_Mo_years) 273 = .ok (.putfield 153, 3) := by decide +kernel
theorem d_Mo_years_276 : decode (yB Y_Mo_years) 276 = .ok (.iconst 0, 1) := by decide +kernel
theorem d_Mo_years_277 : decode (yB Y_Mo_years) 277 = .ok (.istore 4, 2) := by decide +kernel
theorem d_Mo_years_279 : decode (yB Y_Mo_years) 279 = .ok (.iload 4, 2) := by decide +kernel
theorem d_Mo_years_281 : decode (yB Y_Mo_years) 281 = .ok (.aload_n 0, 1) := by decide +kernel
theorem d_Mo_years_282 : decode (yB Y_Mo_years) 282 = .ok (.getfield 153, 3) := by decide +kernel
theorem d_Mo_years_285 : decode (yB Y_Mo_years) 285 = .ok (.if_icmp .ge 29, 3) := by decide +kernel
theorem d_Mo_years_288 : decode (yB Y_Mo_years) 288 = .ok (.aload_n 0, 1) := by decide +kernel
theorem d_Mo_years_289 : decode (yB Y_Mo_years) 289 = .ok (.getfield 150, 3) := by decide +kernel
theorem d_Mo_years_292 : decode (yB Y_Mo_years) 292 = .ok (.bipush 8, 2) := by decide +kernel
theorem d_Mo_years_294 : decode (yB Y_Mo_years) 294 = .ok (.iload 4, 2) := by decide +kernel
theorem d_Mo_years_296 : decode (yB Y_Mo_years) 296 = .ok (.iadd, 1) := by decide +kernel
theorem d_Mo_years_297 : decode (yB Y_Mo_years) 297 = .ok (.aload_n 0, 1) := by decide +kernel
theorem d_Mo_years_298 : decode (yB Y_Mo_years) 298 = .ok (.getfield 13, 3) := by decide +kernel
theorem d_Mo_years_301 : decode (yB Y_Mo_years) 301 = .ok (.bipush 48, 2) := by decide +kernel
theorem d_Mo_years_303 : decode (yB Y_Mo_years) 303 = .ok (.iload 4, 2) := by decide +kernel
theorem d_Mo_years_305 : decode (yB Y_Mo_years) 305 = .ok (.iadd, 1) := by decide +kernel
theorem d_Mo_years_306 : decode (yB Y_Mo_years) 306 = .ok (.iaload, 1) := by decide +kernel
theorem d_Mo_years_307 : decode (yB Y_Mo_years) 307 = .ok (.iastore, 1) := by decide +kernel
theorem d_Mo_years_308 : decode (yB Y_Mo_years) 308 = .ok (.iinc 4 1, 3) := by decide +kernel
theorem d_Mo_years_311 : decode (yB Y_Mo_years) 311 = .ok (.goto (-32), 3) := by decide +kernel
theorem d_Mo_years_314 : decode (yB Y_Mo_years) 314 = .ok (.aload_n 0, 1) := by decide +kernel
theorem d_Mo_years_315 : decode (yB Y_Mo_years) 315 = .ok (.bipush 16, 2) := by decide +kernel
theorem d_Mo_years_317 : decode (yB Y_Mo_years) 317 = .ok (.invokevirtual 173, 3) := by decide +kernel
theorem d_Mo_years_320 : decode (yB Y_Mo_years) 320 = .ok (.aload_n 0, 1) := by decide +kernel
theorem d_Mo_years_321 : decode (yB Y_Mo_years) 321 = .ok (.iload_n 3, 1) := by decide +kernel
theorem d_Mo_years_322 : decode (yB Y_Mo_years) 322 = .ok (.invokevirtual 165, 3) := by decide +kernel
theorem d_Mo_years_325 : decode (yB Y_Mo_years) 325 = .ok (.ireturn, 1) := by decide +kernel
def F_Mo_years_b29 (n : Nat) (E : zE) (S : zS) (a0 : Nat) (M : zH) : Option (Int32 × zH) :=
  (zck S a0 11).bind fun u_1 =>
  (F_Mo_tell n E S a0 (-1) M).bind fun q_2 =>
  some (q_2.1, q_2.2)
def F_Mo_years_b167 (n : Nat) (E : zE) (S : zS) (r52 : Nat × Int32 × Int32 × Int32 × zH → Option (Int32 × zH)) (a0 : Nat) (x2 : Int32) (x3 : Int32) (x4 : Int32) (s0 : Int32) (s1 : Int32) (s2 : Int32) (u3 : Nat) (M : zH) : Option (Int32 × zH) :=
  (zstI S M u3 s2 (s1 + s0)).bind fun m_3 =>
  (zck S a0 11).bind fun u_4 =>
  (F_Mo_passIt n E S a0 m_3).bind fun q_5 =>
  r52 (a0, x2, x3 + q_5.1, x4 + 1, q_5.2)
def F_Mo_years_b166 (n : Nat) (E : zE) (S : zS) (r52 : Nat × Int32 × Int32 × Int32 × zH → Option (Int32 × zH)) (a0 : Nat) (x2 : Int32) (x3 : Int32) (x4 : Int32) (s0 : Int32) (s1 : Int32) (u2 : Nat) (M : zH) : Option (Int32 × zH) :=
  F_Mo_years_b167 n E S r52 a0 x2 x3 x4 0 s0 s1 u2 M
def F_Mo_years_b116 (n : Nat) (E : zE) (S : zS) (r52 : Nat × Int32 × Int32 × Int32 × zH → Option (Int32 × zH)) (a0 : Nat) (x2 : Int32) (x3 : Int32) (x4 : Int32) (x5 : Int32) (x6 : Int32) (x7 : Int32) (s0 : Int32) (s1 : Int32) (s2 : Int32) (u3 : Nat) (M : zH) : Option (Int32 × zH) :=
  (zstI S M u3 s2 (s1 ^^^ s0)).bind fun m_6 =>
  (zgR S a0 11 3).bind fun b_7 =>
  (zldI S m_6 b_7 ((12 + (8 * x5)) + x6)).bind fun v_8 =>
  if x7 = 1 then
    (zldI S m_6 b_7 ((12 + (8 * x5)) + x6)).bind fun v_10 =>
    if 9 ≤ v_10 then
      F_Mo_years_b166 n E S r52 a0 x2 x3 x4 v_8 ((12 + (8 * x5)) + x6) b_7 m_6
    else
      F_Mo_years_b167 n E S r52 a0 x2 x3 x4 1 v_8 ((12 + (8 * x5)) + x6) b_7 m_6
  else
    F_Mo_years_b166 n E S r52 a0 x2 x3 x4 v_8 ((12 + (8 * x5)) + x6) b_7 m_6
def F_Mo_years_L202 (n : Nat) (E : zE) (S : zS) (r185 : Nat × Int32 × Int32 × zH → Option (Int32 × zH)) (r202 : Nat × Int32 × Int32 × Int32 × zH → Option (Int32 × zH)) (a0 : Nat) (x3 : Int32) (x4 : Int32) (x5 : Int32) (M : zH) : Option (Int32 × zH) :=
  if 8 ≤ x5 then
    (zgR S a0 11 55).bind fun b_13 =>
    (zgR S a0 11 3).bind fun b_14 =>
    (zldI S M b_14 (8 + x4)).bind fun v_15 =>
    (zstI S M b_13 (4 + x4) v_15).bind fun m_16 =>
    r185 (a0, x3, x4 + 1, m_16)
  else
    (zgR S a0 11 55).bind fun b_17 =>
    (zldI S M b_17 x4).bind fun v_18 =>
    (zgR S a0 11 3).bind fun b_19 =>
    (zldI S M b_19 ((12 + (8 * x4)) + x5)).bind fun v_20 =>
    (zstI S M b_17 x4 (v_18 + v_20)).bind fun m_21 =>
    r202 (a0, x3, x4, x5 + 1, m_21)
def F_Mo_years_b202 (n : Nat) (E : zE) (S : zS) (r185 : Nat × Int32 × Int32 × zH → Option (Int32 × zH)) : Nat × Int32 × Int32 × Int32 × zH → Option (Int32 × zH) := zfix (fun r202 s => F_Mo_years_L202 n E S r185 r202 s.1 s.2.1 s.2.2.1 s.2.2.2.1 s.2.2.2.2) n
def F_Mo_years_L279 (n : Nat) (E : zE) (S : zS) (r279 : Nat × Int32 × Int32 × zH → Option (Int32 × zH)) (a0 : Nat) (x3 : Int32) (x4 : Int32) (M : zH) : Option (Int32 × zH) :=
  (zgI S M a0 11 56).bind fun v_22 =>
  if v_22 ≤ x4 then
    (F_Mo_putBack n E S a0 16 M).bind fun q_24 =>
    (F_Mo_tell n E S a0 x3 q_24).bind fun q_25 =>
    some (q_25.1, q_25.2)
  else
    (zgR S a0 11 55).bind fun b_26 =>
    (zgR S a0 11 3).bind fun b_27 =>
    (zldI S M b_27 (48 + x4)).bind fun v_28 =>
    (zstI S M b_26 (8 + x4) v_28).bind fun m_29 =>
    r279 (a0, x3, x4 + 1, m_29)
def F_Mo_years_b279 (n : Nat) (E : zE) (S : zS) : Nat × Int32 × Int32 × zH → Option (Int32 × zH) := zfix (fun r279 s => F_Mo_years_L279 n E S r279 s.1 s.2.1 s.2.2.1 s.2.2.2) n
def F_Mo_years_L185 (n : Nat) (E : zE) (S : zS) (r185 : Nat × Int32 × Int32 × zH → Option (Int32 × zH)) (a0 : Nat) (x3 : Int32) (x4 : Int32) (M : zH) : Option (Int32 × zH) :=
  if 4 ≤ x4 then
    (zgR S a0 11 3).bind fun b_31 =>
    (zldI S M b_31 0).bind fun v_32 =>
    (zpI S M a0 11 56 v_32).bind fun m_33 =>
    F_Mo_years_b279 n E S (a0, x3, 0, m_33)
  else
    (zgR S a0 11 55).bind fun b_34 =>
    (zstI S M b_34 x4 0).bind fun m_35 =>
    F_Mo_years_b202 n E S r185 (a0, x3, x4, 0, m_35)
def F_Mo_years_b185 (n : Nat) (E : zE) (S : zS) : Nat × Int32 × Int32 × zH → Option (Int32 × zH) := zfix (fun r185 s => F_Mo_years_L185 n E S r185 s.1 s.2.1 s.2.2.1 s.2.2.2) n
def F_Mo_years_b182 (n : Nat) (E : zE) (S : zS) (a0 : Nat) (x3 : Int32) (M : zH) : Option (Int32 × zH) :=
  F_Mo_years_b185 n E S (a0, x3, 0, M)
def F_Mo_years_L52 (n : Nat) (E : zE) (S : zS) (r52 : Nat × Int32 × Int32 × Int32 × zH → Option (Int32 × zH)) (a0 : Nat) (x2 : Int32) (x3 : Int32) (x4 : Int32) (M : zH) : Option (Int32 × zH) :=
  if x2 ≤ x4 then
    F_Mo_years_b182 n E S a0 x3 M
  else
    (zgR S a0 11 3).bind fun b_37 =>
    (zldI S M b_37 4).bind fun v_38 =>
    if 999 ≤ v_38 then
      F_Mo_years_b182 n E S a0 x3 M
    else
      (F_Mo_draw n E S a0 4 M).bind fun q_40 =>
      (F_Mo_draw n E S a0 8 q_40.2).bind fun q_41 =>
      (F_Mo_draw n E S a0 3 q_41.2).bind fun q_42 =>
      (zldI S q_42.2 b_37 (44 + q_40.1)).bind fun v_43 =>
      if q_42.1 = 0 then
        F_Mo_years_b116 n E S r52 a0 x2 x3 x4 q_40.1 q_41.1 q_42.1 ((1 : Int32) <<< (q_41.1 &&& (31 : Int32))) v_43 (44 + q_40.1) b_37 q_42.2
      else
        F_Mo_years_b116 n E S r52 a0 x2 x3 x4 q_40.1 q_41.1 q_42.1 0 v_43 (44 + q_40.1) b_37 q_42.2
def F_Mo_years_b52 (n : Nat) (E : zE) (S : zS) : Nat × Int32 × Int32 × Int32 × zH → Option (Int32 × zH) := zfix (fun r52 s => F_Mo_years_L52 n E S r52 s.1 s.2.1 s.2.2.1 s.2.2.2.1 s.2.2.2.2) n
def F_Mo_years (n : Nat) (E : zE) (S : zS) (a0 : Nat) (x1 : Int32) (x2 : Int32) (M : zH) : Option (Int32 × zH) :=
  (zpI S M a0 11 0 0).bind fun m_45 =>
  (F_Mo_in n E S x1.toInt64 0 1000000 m_45).bind fun q_46 =>
  if q_46.1 = true then
    (F_Mo_in n E S x2.toInt64 1 60 q_46.2).bind fun q_48 =>
    if q_48.1 = true then
      (zck S a0 11).bind fun u_50 =>
      (F_Mo_keepAll n E S a0 16 q_48.2).bind fun q_51 =>
      (zpJ S q_51 a0 11 54 x1.toInt64).bind fun m_52 =>
      F_Mo_years_b52 n E S (a0, x2, 0, 0, m_52)
    else
      F_Mo_years_b29 n E S a0 q_48.2
  else
    F_Mo_years_b29 n E S a0 q_46.2
theorem K_Mo_years_b29 (n : Nat) (E : zE) (S : zS) (a0 : Nat) (M : zH) (r : Int32) (M' : zH)  (h : F_Mo_years_b29 n E S a0 M = some (r, M')) : zG E Y_Mo_years (some (.int r), S, M') 29 [(0, .ref a0)] [] S M 0 0 := by
  unfold F_Mo_years_b29 at h
  refine zi_aload_n 0 d_Mo_years_29 rfl ?_
  refine zi_iconst (-1) d_Mo_years_30 rfl ?_
  obtain ⟨u_1, eu_1, h⟩ := zbind h
  obtain ⟨q_2, eq_2, h⟩ := zbind h
  refine zo_virt (k' := 0) (n' := 0) 34 [.int (-1)] [] [.int q_2.1] zkd_11 (zck_s eu_1) (C_Mo_tell n E S a0 (-1) M q_2.1 q_2.2 eq_2) d_Mo_years_31 tw_1410 tw_1407 tw_1409 ts_36 tw_13 dd_Mo_tell ⟨Nat.le_of_ble_eq_true rfl, Nat.le_of_ble_eq_true rfl, Nat.le_of_ble_eq_true rfl, Nat.le_of_ble_eq_true rfl⟩ (Nat.le_of_ble_eq_true rfl) rfl rfl rfl rfl ?_
  cases h
  exact zo_ret d_Mo_years_34 (Nat.le_of_ble_eq_true rfl) (Nat.le_of_ble_eq_true rfl) rfl
theorem K_Mo_years_b167 (n : Nat) (E : zE) (S : zS) (r52 : Nat × Int32 × Int32 × Int32 × zH → Option (Int32 × zH)) (a0 : Nat) (x2 : Int32) (x3 : Int32) (x4 : Int32) (s0 : Int32) (s1 : Int32) (s2 : Int32) (u3 : Nat) (M : zH) (r : Int32) (M' : zH) (hr52 : ∀ (a0 : Nat) (x2 : Int32) (x3 : Int32) (x4 : Int32) (M : zH), r52 (a0, x2, x3, x4, M) = some (r, M') → zG E Y_Mo_years (some (.int r), S, M') 52 [(0, .ref a0), (2, .int x2), (3, .int x3), (4, .int x4)] [] S M 0 0) (h : F_Mo_years_b167 n E S r52 a0 x2 x3 x4 s0 s1 s2 u3 M = some (r, M')) : zG E Y_Mo_years (some (.int r), S, M') 167 [(0, .ref a0), (2, .int x2), (3, .int x3), (4, .int x4)] [.int s0, .int s1, .int s2, .ref u3] S M 0 0 := by
  unfold F_Mo_years_b167 at h
  refine zi_iadd d_Mo_years_167 ?_
  obtain ⟨m_3, em_3, h⟩ := zbind h
  refine zo_iast 169 d_Mo_years_168 em_3 rfl ?_
  refine zi_iload_n 2 d_Mo_years_169 rfl ?_
  refine zi_aload_n 0 d_Mo_years_170 rfl ?_
  obtain ⟨u_4, eu_4, h⟩ := zbind h
  obtain ⟨q_5, eq_5, h⟩ := zbind h
  refine zo_virt (k' := 0) (n' := 0) 174 [] [.int x3] [.int q_5.1, .int x3] zkd_11 (zck_s eu_4) (C_Mo_passIt n E S a0 m_3 q_5.1 q_5.2 eq_5) d_Mo_years_171 tw_1734 tw_1731 tw_1733 ts_84 tw_13 dd_Mo_passIt ⟨Nat.le_of_ble_eq_true rfl, Nat.le_of_ble_eq_true rfl, Nat.le_of_ble_eq_true rfl, Nat.le_of_ble_eq_true rfl⟩ (Nat.le_of_ble_eq_true rfl) rfl rfl rfl rfl ?_
  refine zi_iadd d_Mo_years_174 ?_
  refine zi_istore_n [(3, .int (x3 + q_5.1)), (0, .ref a0), (2, .int x2), (4, .int x4)] d_Mo_years_175 (by decide) rfl ?_
  refine zi_iinc 3 (x4 + 1) [(4, .int (x4 + 1)), (3, .int (x3 + q_5.1)), (0, .ref a0), (2, .int x2)] d_Mo_years_176 rfl rfl (by decide) rfl ?_
  refine zi_goto (tgt := 52) d_Mo_years_179 rfl ?_
  refine zi_lo [(0, .ref a0), (2, .int x2), (3, .int (x3 + q_5.1)), (4, .int (x4 + 1))] [2, 3, 1, 0] rfl ?_
  exact hr52 a0 x2 (x3 + q_5.1) (x4 + 1) q_5.2 h
theorem K_Mo_years_b166 (n : Nat) (E : zE) (S : zS) (r52 : Nat × Int32 × Int32 × Int32 × zH → Option (Int32 × zH)) (a0 : Nat) (x2 : Int32) (x3 : Int32) (x4 : Int32) (s0 : Int32) (s1 : Int32) (u2 : Nat) (M : zH) (r : Int32) (M' : zH) (hr52 : ∀ (a0 : Nat) (x2 : Int32) (x3 : Int32) (x4 : Int32) (M : zH), r52 (a0, x2, x3, x4, M) = some (r, M') → zG E Y_Mo_years (some (.int r), S, M') 52 [(0, .ref a0), (2, .int x2), (3, .int x3), (4, .int x4)] [] S M 0 0) (h : F_Mo_years_b166 n E S r52 a0 x2 x3 x4 s0 s1 u2 M = some (r, M')) : zG E Y_Mo_years (some (.int r), S, M') 166 [(0, .ref a0), (2, .int x2), (3, .int x3), (4, .int x4)] [.int s0, .int s1, .ref u2] S M 0 0 := by
  unfold F_Mo_years_b166 at h
  refine zi_iconst 0 d_Mo_years_166 rfl ?_
  refine zi_lo [(0, .ref a0), (2, .int x2), (3, .int x3), (4, .int x4)] [0, 1, 2, 3] rfl ?_
  exact K_Mo_years_b167 n E S r52 a0 x2 x3 x4 0 s0 s1 u2 M r M' hr52 h
theorem K_Mo_years_b116 (n : Nat) (E : zE) (S : zS) (r52 : Nat × Int32 × Int32 × Int32 × zH → Option (Int32 × zH)) (a0 : Nat) (x2 : Int32) (x3 : Int32) (x4 : Int32) (x5 : Int32) (x6 : Int32) (x7 : Int32) (s0 : Int32) (s1 : Int32) (s2 : Int32) (u3 : Nat) (M : zH) (r : Int32) (M' : zH) (hr52 : ∀ (a0 : Nat) (x2 : Int32) (x3 : Int32) (x4 : Int32) (M : zH), r52 (a0, x2, x3, x4, M) = some (r, M') → zG E Y_Mo_years (some (.int r), S, M') 52 [(0, .ref a0), (2, .int x2), (3, .int x3), (4, .int x4)] [] S M 0 0) (h : F_Mo_years_b116 n E S r52 a0 x2 x3 x4 x5 x6 x7 s0 s1 s2 u3 M = some (r, M')) : zG E Y_Mo_years (some (.int r), S, M') 116 [(0, .ref a0), (2, .int x2), (3, .int x3), (4, .int x4), (5, .int x5), (6, .int x6), (7, .int x7)] [.int s0, .int s1, .int s2, .ref u3] S M 0 0 := by
  unfold F_Mo_years_b116 at h
  refine zi_ixor d_Mo_years_116 ?_
  obtain ⟨m_6, em_6, h⟩ := zbind h
  refine zo_iast 118 d_Mo_years_117 em_6 rfl ?_
  refine zi_aload_n 0 d_Mo_years_118 rfl ?_
  obtain ⟨b_7, eb_7, h⟩ := zbind h
  refine zo_getR 122 zkd_11 3 d_Mo_years_119 eb_7 rfl tw_1234 rfl ?_
  refine zi_bipush 12 d_Mo_years_122 rfl ?_
  refine zi_bipush 8 d_Mo_years_124 rfl ?_
  refine zi_iload 4 d_Mo_years_126 rfl ?_
  refine zi_imul d_Mo_years_128 ?_
  refine zi_iadd d_Mo_years_129 ?_
  refine zi_iload 5 d_Mo_years_130 rfl ?_
  refine zi_iadd d_Mo_years_132 ?_
  refine zi_dup2 d_Mo_years_133 rfl rfl ?_
  obtain ⟨v_8, ev_8, h⟩ := zbind h
  refine zo_iald 135 d_Mo_years_134 ev_8 rfl ?_
  refine zi_iload 6 d_Mo_years_135 rfl ?_
  refine zi_iconst 1 d_Mo_years_137 rfl ?_
  refine zi_icmp_ne (tgt := 166) d_Mo_years_138 rfl (fun c_9 => ?_) (fun c_9 => ?_)
  · rw [if_neg c_9] at h
    refine zi_lo [(0, .ref a0), (2, .int x2), (3, .int x3), (4, .int x4)] [0, 1, 2, 3] rfl ?_
    exact K_Mo_years_b166 n E S r52 a0 x2 x3 x4 v_8 ((12 + (8 * x5)) + x6) b_7 m_6 r M' hr52 h
  · rw [if_pos c_9] at h
    refine zi_aload_n 0 d_Mo_years_141 rfl ?_
    refine zo_getR 145 zkd_11 3 d_Mo_years_142 eb_7 rfl tw_1234 rfl ?_
    refine zi_bipush 12 d_Mo_years_145 rfl ?_
    refine zi_bipush 8 d_Mo_years_147 rfl ?_
    refine zi_iload 4 d_Mo_years_149 rfl ?_
    refine zi_imul d_Mo_years_151 ?_
    refine zi_iadd d_Mo_years_152 ?_
    refine zi_iload 5 d_Mo_years_153 rfl ?_
    refine zi_iadd d_Mo_years_155 ?_
    obtain ⟨v_10, ev_10, h⟩ := zbind h
    refine zo_iald 157 d_Mo_years_156 ev_10 rfl ?_
    refine zi_bipush 9 d_Mo_years_157 rfl ?_
    refine zi_icmp_ge (tgt := 166) d_Mo_years_159 rfl (fun c_11 => ?_) (fun c_11 => ?_)
    · rw [if_pos c_11] at h
      refine zi_lo [(0, .ref a0), (2, .int x2), (3, .int x3), (4, .int x4)] [0, 1, 2, 3] rfl ?_
      exact K_Mo_years_b166 n E S r52 a0 x2 x3 x4 v_8 ((12 + (8 * x5)) + x6) b_7 m_6 r M' hr52 h
    · rw [if_neg c_11] at h
      refine zi_iconst 1 d_Mo_years_162 rfl ?_
      refine zi_goto (tgt := 167) d_Mo_years_163 rfl ?_
      refine zi_lo [(0, .ref a0), (2, .int x2), (3, .int x3), (4, .int x4)] [0, 1, 2, 3] rfl ?_
      exact K_Mo_years_b167 n E S r52 a0 x2 x3 x4 1 v_8 ((12 + (8 * x5)) + x6) b_7 m_6 r M' hr52 h
theorem K_Mo_years_L202 (n : Nat) (E : zE) (S : zS) (r185 : Nat × Int32 × Int32 × zH → Option (Int32 × zH)) (r202 : Nat × Int32 × Int32 × Int32 × zH → Option (Int32 × zH)) (a0 : Nat) (x3 : Int32) (x4 : Int32) (x5 : Int32) (M : zH) (r : Int32) (M' : zH) (hr185 : ∀ (a0 : Nat) (x3 : Int32) (x4 : Int32) (M : zH), r185 (a0, x3, x4, M) = some (r, M') → zG E Y_Mo_years (some (.int r), S, M') 185 [(0, .ref a0), (3, .int x3), (4, .int x4)] [] S M 0 0) (hr202 : ∀ (a0 : Nat) (x3 : Int32) (x4 : Int32) (x5 : Int32) (M : zH), r202 (a0, x3, x4, x5, M) = some (r, M') → zG E Y_Mo_years (some (.int r), S, M') 202 [(0, .ref a0), (3, .int x3), (4, .int x4), (5, .int x5)] [] S M 0 0) (h : F_Mo_years_L202 n E S r185 r202 a0 x3 x4 x5 M = some (r, M')) : zG E Y_Mo_years (some (.int r), S, M') 202 [(0, .ref a0), (3, .int x3), (4, .int x4), (5, .int x5)] [] S M 0 0 := by
  unfold F_Mo_years_L202 at h
  refine zi_iload 3 d_Mo_years_202 rfl ?_
  refine zi_bipush 8 d_Mo_years_204 rfl ?_
  refine zi_icmp_ge (tgt := 241) d_Mo_years_206 rfl (fun c_12 => ?_) (fun c_12 => ?_)
  · rw [if_pos c_12] at h
    refine zi_aload_n 0 d_Mo_years_241 rfl ?_
    obtain ⟨b_13, eb_13, h⟩ := zbind h
    refine zo_getR 245 zkd_11 55 d_Mo_years_242 eb_13 rfl tw_1286 rfl ?_
    refine zi_iconst 4 d_Mo_years_245 rfl ?_
    refine zi_iload 2 d_Mo_years_246 rfl ?_
    refine zi_iadd d_Mo_years_248 ?_
    refine zi_aload_n 0 d_Mo_years_249 rfl ?_
    obtain ⟨b_14, eb_14, h⟩ := zbind h
    refine zo_getR 253 zkd_11 3 d_Mo_years_250 eb_14 rfl tw_1234 rfl ?_
    refine zi_bipush 8 d_Mo_years_253 rfl ?_
    refine zi_iload 2 d_Mo_years_255 rfl ?_
    refine zi_iadd d_Mo_years_257 ?_
    obtain ⟨v_15, ev_15, h⟩ := zbind h
    refine zo_iald 259 d_Mo_years_258 ev_15 rfl ?_
    obtain ⟨m_16, em_16, h⟩ := zbind h
    refine zo_iast 260 d_Mo_years_259 em_16 rfl ?_
    refine zi_iinc 2 (x4 + 1) [(4, .int (x4 + 1)), (0, .ref a0), (3, .int x3), (5, .int x5)] d_Mo_years_260 rfl rfl (by decide) rfl ?_
    refine zi_goto (tgt := 185) d_Mo_years_263 rfl ?_
    refine zi_lo [(0, .ref a0), (3, .int x3), (4, .int (x4 + 1))] [1, 2, 0] rfl ?_
    exact hr185 a0 x3 (x4 + 1) m_16 h
  · rw [if_neg c_12] at h
    refine zi_aload_n 0 d_Mo_years_209 rfl ?_
    obtain ⟨b_17, eb_17, h⟩ := zbind h
    refine zo_getR 213 zkd_11 55 d_Mo_years_210 eb_17 rfl tw_1286 rfl ?_
    refine zi_iload 2 d_Mo_years_213 rfl ?_
    refine zi_dup2 d_Mo_years_215 rfl rfl ?_
    obtain ⟨v_18, ev_18, h⟩ := zbind h
    refine zo_iald 217 d_Mo_years_216 ev_18 rfl ?_
    refine zi_aload_n 0 d_Mo_years_217 rfl ?_
    obtain ⟨b_19, eb_19, h⟩ := zbind h
    refine zo_getR 221 zkd_11 3 d_Mo_years_218 eb_19 rfl tw_1234 rfl ?_
    refine zi_bipush 12 d_Mo_years_221 rfl ?_
    refine zi_bipush 8 d_Mo_years_223 rfl ?_
    refine zi_iload 2 d_Mo_years_225 rfl ?_
    refine zi_imul d_Mo_years_227 ?_
    refine zi_iadd d_Mo_years_228 ?_
    refine zi_iload 3 d_Mo_years_229 rfl ?_
    refine zi_iadd d_Mo_years_231 ?_
    obtain ⟨v_20, ev_20, h⟩ := zbind h
    refine zo_iald 233 d_Mo_years_232 ev_20 rfl ?_
    refine zi_iadd d_Mo_years_233 ?_
    obtain ⟨m_21, em_21, h⟩ := zbind h
    refine zo_iast 235 d_Mo_years_234 em_21 rfl ?_
    refine zi_iinc 3 (x5 + 1) [(5, .int (x5 + 1)), (0, .ref a0), (3, .int x3), (4, .int x4)] d_Mo_years_235 rfl rfl (by decide) rfl ?_
    refine zi_goto (tgt := 202) d_Mo_years_238 rfl ?_
    refine zi_lo [(0, .ref a0), (3, .int x3), (4, .int x4), (5, .int (x5 + 1))] [1, 2, 3, 0] rfl ?_
    exact hr202 a0 x3 x4 (x5 + 1) m_21 h
theorem K_Mo_years_b202 (n : Nat) (E : zE) (S : zS) (r185 : Nat × Int32 × Int32 × zH → Option (Int32 × zH)) (a0 : Nat) (x3 : Int32) (x4 : Int32) (x5 : Int32) (M : zH) (r : Int32) (M' : zH) (hr185 : ∀ (a0 : Nat) (x3 : Int32) (x4 : Int32) (M : zH), r185 (a0, x3, x4, M) = some (r, M') → zG E Y_Mo_years (some (.int r), S, M') 185 [(0, .ref a0), (3, .int x3), (4, .int x4)] [] S M 0 0) (h : F_Mo_years_b202 n E S r185 (a0, x3, x4, x5, M) = some (r, M')) : zG E Y_Mo_years (some (.int r), S, M') 202 [(0, .ref a0), (3, .int x3), (4, .int x4), (5, .int x5)] [] S M 0 0 := by
  have key : ∀ (k : Nat) (a0 : Nat) (x3 : Int32) (x4 : Int32) (x5 : Int32) (M : zH), zfix (fun r202 s => F_Mo_years_L202 n E S r185 r202 s.1 s.2.1 s.2.2.1 s.2.2.2.1 s.2.2.2.2) k (a0, x3, x4, x5, M) = some (r, M') → zG E Y_Mo_years (some (.int r), S, M') 202 [(0, .ref a0), (3, .int x3), (4, .int x4), (5, .int x5)] [] S M 0 0 := by
    intro k
    induction k with
    | zero => intro a0 x3 x4 x5 M h; cases h
    | succ k ih => intro a0 x3 x4 x5 M h; exact K_Mo_years_L202 n E S r185 _ a0 x3 x4 x5 M r M' hr185 (fun a0 x3 x4 x5 M h => ih a0 x3 x4 x5 M h) h
  exact key n a0 x3 x4 x5 M h
theorem K_Mo_years_L279 (n : Nat) (E : zE) (S : zS) (r279 : Nat × Int32 × Int32 × zH → Option (Int32 × zH)) (a0 : Nat) (x3 : Int32) (x4 : Int32) (M : zH) (r : Int32) (M' : zH) (hr279 : ∀ (a0 : Nat) (x3 : Int32) (x4 : Int32) (M : zH), r279 (a0, x3, x4, M) = some (r, M') → zG E Y_Mo_years (some (.int r), S, M') 279 [(0, .ref a0), (3, .int x3), (4, .int x4)] [] S M 0 0) (h : F_Mo_years_L279 n E S r279 a0 x3 x4 M = some (r, M')) : zG E Y_Mo_years (some (.int r), S, M') 279 [(0, .ref a0), (3, .int x3), (4, .int x4)] [] S M 0 0 := by
  unfold F_Mo_years_L279 at h
  refine zi_iload 2 d_Mo_years_279 rfl ?_
  refine zi_aload_n 0 d_Mo_years_281 rfl ?_
  obtain ⟨v_22, ev_22, h⟩ := zbind h
  refine zo_getI 285 zkd_11 56 d_Mo_years_282 ev_22 rfl tw_1287 rfl ?_
  refine zi_icmp_ge (tgt := 314) d_Mo_years_285 rfl (fun c_23 => ?_) (fun c_23 => ?_)
  · rw [if_pos c_23] at h
    refine zi_aload_n 0 d_Mo_years_314 rfl ?_
    refine zi_bipush 16 d_Mo_years_315 rfl ?_
    obtain ⟨q_24, eq_24, h⟩ := zbind h
    refine zo_virt (k' := 0) (n' := 0) 320 [.int 16] [] [] zkd_11 (zgI_s ev_22).1 (C_Mo_putBack n E S a0 16 M q_24 eq_24) d_Mo_years_317 tw_1414 tw_1411 tw_1413 ts_37 tw_13 dd_Mo_putBack ⟨Nat.le_of_ble_eq_true rfl, Nat.le_of_ble_eq_true rfl, Nat.le_of_ble_eq_true rfl, Nat.le_of_ble_eq_true rfl⟩ (Nat.le_of_ble_eq_true rfl) rfl rfl rfl rfl ?_
    refine zi_aload_n 0 d_Mo_years_320 rfl ?_
    refine zi_iload_n 1 d_Mo_years_321 rfl ?_
    obtain ⟨q_25, eq_25, h⟩ := zbind h
    refine zo_virt (k' := 0) (n' := 0) 325 [.int x3] [] [.int q_25.1] zkd_11 (zgI_s ev_22).1 (C_Mo_tell n E S a0 x3 q_24 q_25.1 q_25.2 eq_25) d_Mo_years_322 tw_1410 tw_1407 tw_1409 ts_36 tw_13 dd_Mo_tell ⟨Nat.le_of_ble_eq_true rfl, Nat.le_of_ble_eq_true rfl, Nat.le_of_ble_eq_true rfl, Nat.le_of_ble_eq_true rfl⟩ (Nat.le_of_ble_eq_true rfl) rfl rfl rfl rfl ?_
    cases h
    exact zo_ret d_Mo_years_325 (Nat.le_of_ble_eq_true rfl) (Nat.le_of_ble_eq_true rfl) rfl
  · rw [if_neg c_23] at h
    refine zi_aload_n 0 d_Mo_years_288 rfl ?_
    obtain ⟨b_26, eb_26, h⟩ := zbind h
    refine zo_getR 292 zkd_11 55 d_Mo_years_289 eb_26 rfl tw_1286 rfl ?_
    refine zi_bipush 8 d_Mo_years_292 rfl ?_
    refine zi_iload 2 d_Mo_years_294 rfl ?_
    refine zi_iadd d_Mo_years_296 ?_
    refine zi_aload_n 0 d_Mo_years_297 rfl ?_
    obtain ⟨b_27, eb_27, h⟩ := zbind h
    refine zo_getR 301 zkd_11 3 d_Mo_years_298 eb_27 rfl tw_1234 rfl ?_
    refine zi_bipush 48 d_Mo_years_301 rfl ?_
    refine zi_iload 2 d_Mo_years_303 rfl ?_
    refine zi_iadd d_Mo_years_305 ?_
    obtain ⟨v_28, ev_28, h⟩ := zbind h
    refine zo_iald 307 d_Mo_years_306 ev_28 rfl ?_
    obtain ⟨m_29, em_29, h⟩ := zbind h
    refine zo_iast 308 d_Mo_years_307 em_29 rfl ?_
    refine zi_iinc 2 (x4 + 1) [(4, .int (x4 + 1)), (0, .ref a0), (3, .int x3)] d_Mo_years_308 rfl rfl (by decide) rfl ?_
    refine zi_goto (tgt := 279) d_Mo_years_311 rfl ?_
    refine zi_lo [(0, .ref a0), (3, .int x3), (4, .int (x4 + 1))] [1, 2, 0] rfl ?_
    exact hr279 a0 x3 (x4 + 1) m_29 h
theorem K_Mo_years_b279 (n : Nat) (E : zE) (S : zS) (a0 : Nat) (x3 : Int32) (x4 : Int32) (M : zH) (r : Int32) (M' : zH)  (h : F_Mo_years_b279 n E S (a0, x3, x4, M) = some (r, M')) : zG E Y_Mo_years (some (.int r), S, M') 279 [(0, .ref a0), (3, .int x3), (4, .int x4)] [] S M 0 0 := by
  have key : ∀ (k : Nat) (a0 : Nat) (x3 : Int32) (x4 : Int32) (M : zH), zfix (fun r279 s => F_Mo_years_L279 n E S r279 s.1 s.2.1 s.2.2.1 s.2.2.2) k (a0, x3, x4, M) = some (r, M') → zG E Y_Mo_years (some (.int r), S, M') 279 [(0, .ref a0), (3, .int x3), (4, .int x4)] [] S M 0 0 := by
    intro k
    induction k with
    | zero => intro a0 x3 x4 M h; cases h
    | succ k ih => intro a0 x3 x4 M h; exact K_Mo_years_L279 n E S _ a0 x3 x4 M r M'  (fun a0 x3 x4 M h => ih a0 x3 x4 M h) h
  exact key n a0 x3 x4 M h
theorem K_Mo_years_L185 (n : Nat) (E : zE) (S : zS) (r185 : Nat × Int32 × Int32 × zH → Option (Int32 × zH)) (a0 : Nat) (x3 : Int32) (x4 : Int32) (M : zH) (r : Int32) (M' : zH) (hr185 : ∀ (a0 : Nat) (x3 : Int32) (x4 : Int32) (M : zH), r185 (a0, x3, x4, M) = some (r, M') → zG E Y_Mo_years (some (.int r), S, M') 185 [(0, .ref a0), (3, .int x3), (4, .int x4)] [] S M 0 0) (h : F_Mo_years_L185 n E S r185 a0 x3 x4 M = some (r, M')) : zG E Y_Mo_years (some (.int r), S, M') 185 [(0, .ref a0), (3, .int x3), (4, .int x4)] [] S M 0 0 := by
  unfold F_Mo_years_L185 at h
  refine zi_iload 2 d_Mo_years_185 rfl ?_
  refine zi_iconst 4 d_Mo_years_187 rfl ?_
  refine zi_icmp_ge (tgt := 266) d_Mo_years_188 rfl (fun c_30 => ?_) (fun c_30 => ?_)
  · rw [if_pos c_30] at h
    refine zi_aload_n 0 d_Mo_years_266 rfl ?_
    refine zi_aload_n 0 d_Mo_years_267 rfl ?_
    obtain ⟨b_31, eb_31, h⟩ := zbind h
    refine zo_getR 271 zkd_11 3 d_Mo_years_268 eb_31 rfl tw_1234 rfl ?_
    refine zi_iconst 0 d_Mo_years_271 rfl ?_
    obtain ⟨v_32, ev_32, h⟩ := zbind h
    refine zo_iald 273 d_Mo_years_272 ev_32 rfl ?_
    obtain ⟨m_33, em_33, h⟩ := zbind h
    refine zo_putI 276 zkd_11 56 d_Mo_years_273 em_33 rfl rfl rfl tw_1287 rfl ?_
    refine zi_iconst 0 d_Mo_years_276 rfl ?_
    refine zi_istore [(4, .int 0), (0, .ref a0), (3, .int x3)] d_Mo_years_277 (by decide) rfl ?_
    refine zi_lo [(0, .ref a0), (3, .int x3), (4, .int 0)] [1, 2, 0] rfl ?_
    exact K_Mo_years_b279 n E S a0 x3 0 m_33 r M'  h
  · rw [if_neg c_30] at h
    refine zi_aload_n 0 d_Mo_years_191 rfl ?_
    obtain ⟨b_34, eb_34, h⟩ := zbind h
    refine zo_getR 195 zkd_11 55 d_Mo_years_192 eb_34 rfl tw_1286 rfl ?_
    refine zi_iload 2 d_Mo_years_195 rfl ?_
    refine zi_iconst 0 d_Mo_years_197 rfl ?_
    obtain ⟨m_35, em_35, h⟩ := zbind h
    refine zo_iast 199 d_Mo_years_198 em_35 rfl ?_
    refine zi_iconst 0 d_Mo_years_199 rfl ?_
    refine zi_istore [(5, .int 0), (0, .ref a0), (3, .int x3), (4, .int x4)] d_Mo_years_200 (by decide) rfl ?_
    refine zi_lo [(0, .ref a0), (3, .int x3), (4, .int x4), (5, .int 0)] [1, 2, 3, 0] rfl ?_
    exact K_Mo_years_b202 n E S r185 a0 x3 x4 0 m_35 r M' hr185 h
theorem K_Mo_years_b185 (n : Nat) (E : zE) (S : zS) (a0 : Nat) (x3 : Int32) (x4 : Int32) (M : zH) (r : Int32) (M' : zH)  (h : F_Mo_years_b185 n E S (a0, x3, x4, M) = some (r, M')) : zG E Y_Mo_years (some (.int r), S, M') 185 [(0, .ref a0), (3, .int x3), (4, .int x4)] [] S M 0 0 := by
  have key : ∀ (k : Nat) (a0 : Nat) (x3 : Int32) (x4 : Int32) (M : zH), zfix (fun r185 s => F_Mo_years_L185 n E S r185 s.1 s.2.1 s.2.2.1 s.2.2.2) k (a0, x3, x4, M) = some (r, M') → zG E Y_Mo_years (some (.int r), S, M') 185 [(0, .ref a0), (3, .int x3), (4, .int x4)] [] S M 0 0 := by
    intro k
    induction k with
    | zero => intro a0 x3 x4 M h; cases h
    | succ k ih => intro a0 x3 x4 M h; exact K_Mo_years_L185 n E S _ a0 x3 x4 M r M'  (fun a0 x3 x4 M h => ih a0 x3 x4 M h) h
  exact key n a0 x3 x4 M h
theorem K_Mo_years_b182 (n : Nat) (E : zE) (S : zS) (a0 : Nat) (x3 : Int32) (M : zH) (r : Int32) (M' : zH)  (h : F_Mo_years_b182 n E S a0 x3 M = some (r, M')) : zG E Y_Mo_years (some (.int r), S, M') 182 [(0, .ref a0), (3, .int x3)] [] S M 0 0 := by
  unfold F_Mo_years_b182 at h
  refine zi_iconst 0 d_Mo_years_182 rfl ?_
  refine zi_istore [(4, .int 0), (0, .ref a0), (3, .int x3)] d_Mo_years_183 (by decide) rfl ?_
  refine zi_lo [(0, .ref a0), (3, .int x3), (4, .int 0)] [1, 2, 0] rfl ?_
  exact K_Mo_years_b185 n E S a0 x3 0 M r M'  h
theorem K_Mo_years_L52 (n : Nat) (E : zE) (S : zS) (r52 : Nat × Int32 × Int32 × Int32 × zH → Option (Int32 × zH)) (a0 : Nat) (x2 : Int32) (x3 : Int32) (x4 : Int32) (M : zH) (r : Int32) (M' : zH) (hr52 : ∀ (a0 : Nat) (x2 : Int32) (x3 : Int32) (x4 : Int32) (M : zH), r52 (a0, x2, x3, x4, M) = some (r, M') → zG E Y_Mo_years (some (.int r), S, M') 52 [(0, .ref a0), (2, .int x2), (3, .int x3), (4, .int x4)] [] S M 0 0) (h : F_Mo_years_L52 n E S r52 a0 x2 x3 x4 M = some (r, M')) : zG E Y_Mo_years (some (.int r), S, M') 52 [(0, .ref a0), (2, .int x2), (3, .int x3), (4, .int x4)] [] S M 0 0 := by
  unfold F_Mo_years_L52 at h
  refine zi_iload 3 d_Mo_years_52 rfl ?_
  refine zi_iload_n 1 d_Mo_years_54 rfl ?_
  refine zi_icmp_ge (tgt := 182) d_Mo_years_55 rfl (fun c_36 => ?_) (fun c_36 => ?_)
  · rw [if_pos c_36] at h
    refine zi_lo [(0, .ref a0), (3, .int x3)] [0, 2] rfl ?_
    exact K_Mo_years_b182 n E S a0 x3 M r M'  h
  · rw [if_neg c_36] at h
    refine zi_aload_n 0 d_Mo_years_58 rfl ?_
    obtain ⟨b_37, eb_37, h⟩ := zbind h
    refine zo_getR 62 zkd_11 3 d_Mo_years_59 eb_37 rfl tw_1234 rfl ?_
    refine zi_iconst 4 d_Mo_years_62 rfl ?_
    obtain ⟨v_38, ev_38, h⟩ := zbind h
    refine zo_iald 64 d_Mo_years_63 ev_38 rfl ?_
    refine zi_sipush 999 d_Mo_years_64 rfl ?_
    refine zi_icmp_ge (tgt := 182) d_Mo_years_67 rfl (fun c_39 => ?_) (fun c_39 => ?_)
    · rw [if_pos c_39] at h
      refine zi_lo [(0, .ref a0), (3, .int x3)] [0, 2] rfl ?_
      exact K_Mo_years_b182 n E S a0 x3 M r M'  h
    · rw [if_neg c_39] at h
      refine zi_aload_n 0 d_Mo_years_70 rfl ?_
      refine zi_iconst 4 d_Mo_years_71 rfl ?_
      obtain ⟨q_40, eq_40, h⟩ := zbind h
      refine zo_virt (k' := 0) (n' := 0) 75 [.int 4] [] [.int q_40.1] zkd_11 (zgR_s eb_37).1 (C_Mo_draw n E S a0 4 M q_40.1 q_40.2 eq_40) d_Mo_years_72 tw_1893 tw_1890 tw_1892 ts_103 tw_13 dd_Mo_draw ⟨Nat.le_of_ble_eq_true rfl, Nat.le_of_ble_eq_true rfl, Nat.le_of_ble_eq_true rfl, Nat.le_of_ble_eq_true rfl⟩ (Nat.le_of_ble_eq_true rfl) rfl rfl rfl rfl ?_
      refine zi_istore [(5, .int q_40.1), (0, .ref a0), (2, .int x2), (3, .int x3), (4, .int x4)] d_Mo_years_75 (by decide) rfl ?_
      refine zi_aload_n 1 d_Mo_years_77 rfl ?_
      refine zi_bipush 8 d_Mo_years_78 rfl ?_
      obtain ⟨q_41, eq_41, h⟩ := zbind h
      refine zo_virt (k' := 0) (n' := 0) 83 [.int 8] [] [.int q_41.1] zkd_11 (zgR_s eb_37).1 (C_Mo_draw n E S a0 8 q_40.2 q_41.1 q_41.2 eq_41) d_Mo_years_80 tw_1893 tw_1890 tw_1892 ts_103 tw_13 dd_Mo_draw ⟨Nat.le_of_ble_eq_true rfl, Nat.le_of_ble_eq_true rfl, Nat.le_of_ble_eq_true rfl, Nat.le_of_ble_eq_true rfl⟩ (Nat.le_of_ble_eq_true rfl) rfl rfl rfl rfl ?_
      refine zi_istore [(6, .int q_41.1), (5, .int q_40.1), (0, .ref a0), (2, .int x2), (3, .int x3), (4, .int x4)] d_Mo_years_83 (by decide) rfl ?_
      refine zi_aload_n 2 d_Mo_years_85 rfl ?_
      refine zi_iconst 3 d_Mo_years_86 rfl ?_
      obtain ⟨q_42, eq_42, h⟩ := zbind h
      refine zo_virt (k' := 0) (n' := 0) 90 [.int 3] [] [.int q_42.1] zkd_11 (zgR_s eb_37).1 (C_Mo_draw n E S a0 3 q_41.2 q_42.1 q_42.2 eq_42) d_Mo_years_87 tw_1893 tw_1890 tw_1892 ts_103 tw_13 dd_Mo_draw ⟨Nat.le_of_ble_eq_true rfl, Nat.le_of_ble_eq_true rfl, Nat.le_of_ble_eq_true rfl, Nat.le_of_ble_eq_true rfl⟩ (Nat.le_of_ble_eq_true rfl) rfl rfl rfl rfl ?_
      refine zi_istore [(7, .int q_42.1), (6, .int q_41.1), (5, .int q_40.1), (0, .ref a0), (2, .int x2), (3, .int x3), (4, .int x4)] d_Mo_years_90 (by decide) rfl ?_
      refine zi_aload_n 3 d_Mo_years_92 rfl ?_
      refine zo_getR 96 zkd_11 3 d_Mo_years_93 eb_37 rfl tw_1234 rfl ?_
      refine zi_bipush 44 d_Mo_years_96 rfl ?_
      refine zi_iload 2 d_Mo_years_98 rfl ?_
      refine zi_iadd d_Mo_years_100 ?_
      refine zi_dup2 d_Mo_years_101 rfl rfl ?_
      obtain ⟨v_43, ev_43, h⟩ := zbind h
      refine zo_iald 103 d_Mo_years_102 ev_43 rfl ?_
      refine zi_iload 0 d_Mo_years_103 rfl ?_
      refine zi_if_ne (tgt := 115) d_Mo_years_105 rfl (fun c_44 => ?_) (fun c_44 => ?_)
      · rw [if_neg c_44] at h
        refine zi_iconst 0 d_Mo_years_115 rfl ?_
        refine zi_lo [(0, .ref a0), (2, .int x2), (3, .int x3), (4, .int x4), (5, .int q_40.1), (6, .int q_41.1), (7, .int q_42.1)] [3, 4, 5, 6, 2, 1, 0] rfl ?_
        exact K_Mo_years_b116 n E S r52 a0 x2 x3 x4 q_40.1 q_41.1 q_42.1 0 v_43 (44 + q_40.1) b_37 q_42.2 r M' hr52 h
      · rw [if_pos c_44] at h
        refine zi_iconst 1 d_Mo_years_108 rfl ?_
        refine zi_iload 1 d_Mo_years_109 rfl ?_
        refine zi_ishl d_Mo_years_111 ?_
        refine zi_goto (tgt := 116) d_Mo_years_112 rfl ?_
        refine zi_lo [(0, .ref a0), (2, .int x2), (3, .int x3), (4, .int x4), (5, .int q_40.1), (6, .int q_41.1), (7, .int q_42.1)] [3, 4, 5, 6, 2, 1, 0] rfl ?_
        exact K_Mo_years_b116 n E S r52 a0 x2 x3 x4 q_40.1 q_41.1 q_42.1 ((1 : Int32) <<< (q_41.1 &&& (31 : Int32))) v_43 (44 + q_40.1) b_37 q_42.2 r M' hr52 h
theorem K_Mo_years_b52 (n : Nat) (E : zE) (S : zS) (a0 : Nat) (x2 : Int32) (x3 : Int32) (x4 : Int32) (M : zH) (r : Int32) (M' : zH)  (h : F_Mo_years_b52 n E S (a0, x2, x3, x4, M) = some (r, M')) : zG E Y_Mo_years (some (.int r), S, M') 52 [(0, .ref a0), (2, .int x2), (3, .int x3), (4, .int x4)] [] S M 0 0 := by
  have key : ∀ (k : Nat) (a0 : Nat) (x2 : Int32) (x3 : Int32) (x4 : Int32) (M : zH), zfix (fun r52 s => F_Mo_years_L52 n E S r52 s.1 s.2.1 s.2.2.1 s.2.2.2.1 s.2.2.2.2) k (a0, x2, x3, x4, M) = some (r, M') → zG E Y_Mo_years (some (.int r), S, M') 52 [(0, .ref a0), (2, .int x2), (3, .int x3), (4, .int x4)] [] S M 0 0 := by
    intro k
    induction k with
    | zero => intro a0 x2 x3 x4 M h; cases h
    | succ k ih => intro a0 x2 x3 x4 M h; exact K_Mo_years_L52 n E S _ a0 x2 x3 x4 M r M'  (fun a0 x2 x3 x4 M h => ih a0 x2 x3 x4 M h) h
  exact key n a0 x2 x3 x4 M h
theorem K_Mo_years (n : Nat) (E : zE) (S : zS) (a0 : Nat) (x1 : Int32) (x2 : Int32) (M : zH) (r : Int32) (M' : zH)  (h : F_Mo_years n E S a0 x1 x2 M = some (r, M')) : zG E Y_Mo_years (some (.int r), S, M') 0 [(0, .ref a0), (1, .int x1), (2, .int x2)] [] S M 0 0 := by
  unfold F_Mo_years at h
  refine zi_aload_n 0 d_Mo_years_0 rfl ?_
  refine zi_iconst 0 d_Mo_years_1 rfl ?_
  obtain ⟨m_45, em_45, h⟩ := zbind h
  refine zo_putI 5 zkd_11 0 d_Mo_years_2 em_45 rfl rfl rfl tw_1231 rfl ?_
  refine zi_iload_n 1 d_Mo_years_5 rfl ?_
  refine zi_i2l d_Mo_years_6 ?_
  refine zi_lconst 0 d_Mo_years_7 rfl ?_
  refine zi_ldc2 d_Mo_years_8 tw_1588 ?_
  obtain ⟨q_46, eq_46, h⟩ := zbind h
  refine zo_stat (k' := 0) (n' := 0) 14 [.long x1.toInt64, .long 0, .long 1000000] [] [.int (bI q_46.1)] (C_Mo_in n E S x1.toInt64 0 1000000 m_45 q_46.1 q_46.2 eq_46) d_Mo_years_11 tw_1421 tw_1419 tw_1420 tw_13 dd_Mo_in ⟨Nat.le_of_ble_eq_true rfl, Nat.le_of_ble_eq_true rfl, Nat.le_of_ble_eq_true rfl, Nat.le_of_ble_eq_true rfl⟩ (Nat.le_of_ble_eq_true rfl) rfl rfl rfl rfl ?_
  refine zo_ifeqB d_Mo_years_14 rfl 17 rfl (fun c_47 => ?_) (fun c_47 => ?_)
  · rw [if_neg c_47] at h
    refine zi_lo [(0, .ref a0)] [0] rfl ?_
    exact K_Mo_years_b29 n E S a0 q_46.2 r M'  h
  · rw [if_pos c_47] at h
    refine zi_iload_n 2 d_Mo_years_17 rfl ?_
    refine zi_i2l d_Mo_years_18 ?_
    refine zi_lconst 1 d_Mo_years_19 rfl ?_
    refine zi_ldc2 d_Mo_years_20 tw_1889 ?_
    obtain ⟨q_48, eq_48, h⟩ := zbind h
    refine zo_stat (k' := 0) (n' := 0) 26 [.long x2.toInt64, .long 1, .long 60] [] [.int (bI q_48.1)] (C_Mo_in n E S x2.toInt64 1 60 q_46.2 q_48.1 q_48.2 eq_48) d_Mo_years_23 tw_1421 tw_1419 tw_1420 tw_13 dd_Mo_in ⟨Nat.le_of_ble_eq_true rfl, Nat.le_of_ble_eq_true rfl, Nat.le_of_ble_eq_true rfl, Nat.le_of_ble_eq_true rfl⟩ (Nat.le_of_ble_eq_true rfl) rfl rfl rfl rfl ?_
    refine zo_ifneB d_Mo_years_26 rfl 29 rfl (fun c_49 => ?_) (fun c_49 => ?_)
    · rw [if_pos c_49] at h
      refine zi_aload_n 0 d_Mo_years_35 rfl ?_
      refine zi_bipush 16 d_Mo_years_36 rfl ?_
      obtain ⟨u_50, eu_50, h⟩ := zbind h
      obtain ⟨q_51, eq_51, h⟩ := zbind h
      refine zo_virt (k' := 0) (n' := 0) 41 [.int 16] [] [] zkd_11 (zck_s eu_50) (C_Mo_keepAll n E S a0 16 q_48.2 q_51 eq_51) d_Mo_years_38 tw_1706 tw_1703 tw_1705 ts_80 tw_13 dd_Mo_keepAll ⟨Nat.le_of_ble_eq_true rfl, Nat.le_of_ble_eq_true rfl, Nat.le_of_ble_eq_true rfl, Nat.le_of_ble_eq_true rfl⟩ (Nat.le_of_ble_eq_true rfl) rfl rfl rfl rfl ?_
      refine zi_aload_n 0 d_Mo_years_41 rfl ?_
      refine zi_iload_n 1 d_Mo_years_42 rfl ?_
      refine zi_i2l d_Mo_years_43 ?_
      obtain ⟨m_52, em_52, h⟩ := zbind h
      refine zo_putJ 47 zkd_11 54 d_Mo_years_44 em_52 rfl rfl rfl tw_1285 rfl ?_
      refine zi_iconst 0 d_Mo_years_47 rfl ?_
      refine zi_istore_n [(3, .int 0), (0, .ref a0), (1, .int x1), (2, .int x2)] d_Mo_years_48 (by decide) rfl ?_
      refine zi_iconst 0 d_Mo_years_49 rfl ?_
      refine zi_istore [(4, .int 0), (3, .int 0), (0, .ref a0), (1, .int x1), (2, .int x2)] d_Mo_years_50 (by decide) rfl ?_
      refine zi_lo [(0, .ref a0), (2, .int x2), (3, .int 0), (4, .int 0)] [2, 4, 1, 0] rfl ?_
      exact K_Mo_years_b52 n E S a0 x2 0 0 m_52 r M'  h
    · rw [if_neg c_49] at h
      refine zi_lo [(0, .ref a0)] [0] rfl ?_
      exact K_Mo_years_b29 n E S a0 q_48.2 r M'  h
theorem C_Mo_years (n : Nat) (E : zE) (S : zS) (a0 : Nat) (x1 : Int32) (x2 : Int32) (M : zH) (r : Int32) (M' : zH) (h : F_Mo_years n E S a0 x1 x2 M = some (r, M')) : zC E Y_Mo_years [.ref a0, .int x1, .int x2] S M (some (.int r), S, M') :=
  zC.of (Or.inl (show plainName "NightColanderModel" = true by decide)) (Nat.le_of_ble_eq_true rfl) (trivial) (K_Mo_years n E S a0 x1 x2 M r M' h)
theorem d_Mo_drawn_0 : decode (yB Y_Mo_drawn) 0 = .ok (.aload_n 0, 1) := by decide +kernel
theorem d_Mo_drawn_1 : decode (yB Y_Mo_drawn) 1 = .ok (.iconst 0, 1) := by decide +kernel
theorem d_Mo_drawn_2 : decode (yB Y_Mo_drawn) 2 = .ok (.putfield 156, 3) := by decide +kernel
theorem d_Mo_drawn_5 : decode (yB Y_Mo_drawn) 5 = .ok (.aload_n 0, 1) := by decide +kernel
theorem d_Mo_drawn_6 : decode (yB Y_Mo_drawn) 6 = .ok (.getfield 153, 3) := by decide +kernel
theorem d_Mo_drawn_9 : decode (yB Y_Mo_drawn) 9 = .ok (.iconst (-1), 1) := by decide +kernel
theorem d_Mo_drawn_10 : decode (yB Y_Mo_drawn) 10 = .ok (.if_icmp .eq 40, 3) := by decide +kernel
theorem d_Mo_drawn_13 : decode (yB Y_Mo_drawn) 13 = .ok (.iload_n 2, 1) := by decide +kernel
theorem d_Mo_drawn_14 : decode (yB Y_Mo_drawn) 14 = .ok (.i2l, 1) := by decide +kernel
theorem d_Mo_drawn_15 : decode (yB Y_Mo_drawn) 15 = .ok (.lconst 0, 1) := by decide +kernel
theorem d_Mo_drawn_16 : decode (yB Y_Mo_drawn) 16 = .ok (.ldc2_w 347, 3) := by decide +kernel
theorem d_Mo_drawn_19 : decode (yB Y_Mo_drawn) 19 = .ok (.invokestatic 176, 3) := by decide +kernel
theorem d_Mo_drawn_22 : decode (yB Y_Mo_drawn) 22 = .ok (.ifCond .eq 28, 3) := by decide +kernel
theorem d_Mo_drawn_25 : decode (yB Y_Mo_drawn) 25 = .ok (.iload_n 1, 1) := by decide +kernel
theorem d_Mo_drawn_26 : decode (yB Y_Mo_drawn) 26 = .ok (.i2l, 1) := by decide +kernel
theorem d_Mo_drawn_27 : decode (yB Y_Mo_drawn) 27 = .ok (.lconst 0, 1) := by decide +kernel
theorem d_Mo_drawn_28 : decode (yB Y_Mo_drawn) 28 = .ok (.iload_n 2, 1) := by decide +kernel
theorem d_Mo_drawn_29 : decode (yB Y_Mo_drawn) 29 = .ok (.iconst 2, 1) := by decide +kernel
theorem d_Mo_drawn_30 : decode (yB Y_Mo_drawn) 30 = .ok (.if_icmp .ge 7, 3) := by decide +kernel
theorem d_Mo_drawn_33 : decode (yB Y_Mo_drawn) 33 = .ok (.iconst 4, 1) := by decide +kernel
theorem d_Mo_drawn_34 : decode (yB Y_Mo_drawn) 34 = .ok (.goto 7, 3) := by decide +kernel
theorem d_Mo_drawn_37 : decode (yB Y_Mo_drawn) 37 = .ok (.aload_n 0, 1) := by decide +kernel
theorem d_Mo_drawn_38 : decode (yB Y_Mo_drawn) 38 = .ok (.getfield 153, 3) := by decide +kernel
theorem d_Mo_drawn_41 : decode (yB Y_Mo_drawn) 41 = .ok (.i2l, 1) := by decide +kernel
theorem d_Mo_drawn_42 : decode (yB Y_Mo_drawn) 42 = .ok (.lconst 1, 1) := by decide +kernel
theorem d_Mo_drawn_43 : decode (yB Y_Mo_drawn) 43 = .ok (.lsub, 1) := by decide +kernel
theorem d_Mo_drawn_44 : decode (yB Y_Mo_drawn) 44 = .ok (.invokestatic 176, 3) := by decide +kernel
theorem d_Mo_drawn_47 : decode (yB Y_Mo_drawn) 47 = .ok (.ifCond .ne 5, 3) := by decide +kernel
theorem d_Mo_drawn_50 : decode (yB Y_Mo_drawn) 50 = .ok (.iconst (-1), 1) := by decide +kernel
theorem d_Mo_drawn_51 : decode (yB Y_Mo_drawn) 51 = .ok (.ireturn, 1) := by decide +kernel
theorem d_Mo_drawn_52 : decode (yB Y_Mo_drawn) 52 = .ok (.aload_n 0, 1) := by decide +kernel
theorem d_Mo_drawn_53 : decode (yB Y_Mo_drawn) 53 = .ok (.getfield 150, 3) := by decide +kernel
theorem d_Mo_drawn_56 : decode (yB Y_Mo_drawn) 56 = .ok (.iconst 4, 1) := by decide +kernel
theorem d_Mo_drawn_57 : decode (yB Y_Mo_drawn) 57 = .ok (.iload_n 2, 1) := by decide +kernel
theorem d_Mo_drawn_58 : decode (yB Y_Mo_drawn) 58 = .ok (.imul, 1) := by decide +kernel
theorem d_Mo_drawn_59 : decode (yB Y_Mo_drawn) 59 = .ok (.iload_n 1, 1) := by decide +kernel
theorem d_Mo_drawn_60 : decode (yB Y_Mo_drawn) 60 = .ok (.iadd, 1) := by decide +kernel
theorem d_Mo_drawn_61 : decode (yB Y_Mo_drawn) 61 = .ok (.iaload, 1) := by decide +kernel
theorem d_Mo_drawn_62 : decode (yB Y_Mo_drawn) 62 = .ok (.ireturn, 1) := by decide +kernel
def F_Mo_drawn_b41 (n : Nat) (E : zE) (S : zS) (a0 : Nat) (x1 : Int32) (x2 : Int32) (s0 : Int32) (t1 : Int64) (t2 : Int64) (M : zH) : Option (Int32 × zH) :=
  (F_Mo_in n E S t2 t1 (s0.toInt64 - 1) M).bind fun q_1 =>
  if q_1.1 = true then
    (zgR S a0 11 55).bind fun b_3 =>
    (zldI S q_1.2 b_3 ((4 * x2) + x1)).bind fun v_4 =>
    some (v_4, q_1.2)
  else
    some ((-1), q_1.2)
def F_Mo_drawn (n : Nat) (E : zE) (S : zS) (a0 : Nat) (x1 : Int32) (x2 : Int32) (M : zH) : Option (Int32 × zH) :=
  (zpI S M a0 11 0 0).bind fun m_5 =>
  (zgI S m_5 a0 11 56).bind fun v_6 =>
  if v_6 = (-1) then
    some ((-1), m_5)
  else
    (F_Mo_in n E S x2.toInt64 0 2 m_5).bind fun q_8 =>
    if q_8.1 = true then
      if 2 ≤ x2 then
        (zgI S q_8.2 a0 11 56).bind fun v_11 =>
        F_Mo_drawn_b41 n E S a0 x1 x2 v_11 0 x1.toInt64 q_8.2
      else
        F_Mo_drawn_b41 n E S a0 x1 x2 4 0 x1.toInt64 q_8.2
    else
      some ((-1), q_8.2)
theorem K_Mo_drawn_b41 (n : Nat) (E : zE) (S : zS) (a0 : Nat) (x1 : Int32) (x2 : Int32) (s0 : Int32) (t1 : Int64) (t2 : Int64) (M : zH) (r : Int32) (M' : zH)  (h : F_Mo_drawn_b41 n E S a0 x1 x2 s0 t1 t2 M = some (r, M')) : zG E Y_Mo_drawn (some (.int r), S, M') 41 [(0, .ref a0), (1, .int x1), (2, .int x2)] [.int s0, .long t1, .long t2] S M 0 0 := by
  unfold F_Mo_drawn_b41 at h
  refine zi_i2l d_Mo_drawn_41 ?_
  refine zi_lconst 1 d_Mo_drawn_42 rfl ?_
  refine zi_lsub d_Mo_drawn_43 ?_
  obtain ⟨q_1, eq_1, h⟩ := zbind h
  refine zo_stat (k' := 0) (n' := 0) 47 [.long t2, .long t1, .long (s0.toInt64 - 1)] [] [.int (bI q_1.1)] (C_Mo_in n E S t2 t1 (s0.toInt64 - 1) M q_1.1 q_1.2 eq_1) d_Mo_drawn_44 tw_1421 tw_1419 tw_1420 tw_13 dd_Mo_in ⟨Nat.le_of_ble_eq_true rfl, Nat.le_of_ble_eq_true rfl, Nat.le_of_ble_eq_true rfl, Nat.le_of_ble_eq_true rfl⟩ (Nat.le_of_ble_eq_true rfl) rfl rfl rfl rfl ?_
  refine zo_ifneB d_Mo_drawn_47 rfl 50 rfl (fun c_2 => ?_) (fun c_2 => ?_)
  · rw [if_pos c_2] at h
    refine zi_aload_n 0 d_Mo_drawn_52 rfl ?_
    obtain ⟨b_3, eb_3, h⟩ := zbind h
    refine zo_getR 56 zkd_11 55 d_Mo_drawn_53 eb_3 rfl tw_1286 rfl ?_
    refine zi_iconst 4 d_Mo_drawn_56 rfl ?_
    refine zi_iload_n 2 d_Mo_drawn_57 rfl ?_
    refine zi_imul d_Mo_drawn_58 ?_
    refine zi_iload_n 1 d_Mo_drawn_59 rfl ?_
    refine zi_iadd d_Mo_drawn_60 ?_
    obtain ⟨v_4, ev_4, h⟩ := zbind h
    refine zo_iald 62 d_Mo_drawn_61 ev_4 rfl ?_
    cases h
    exact zo_ret d_Mo_drawn_62 (Nat.le_of_ble_eq_true rfl) (Nat.le_of_ble_eq_true rfl) rfl
  · rw [if_neg c_2] at h
    refine zi_iconst (-1) d_Mo_drawn_50 rfl ?_
    cases h
    exact zo_ret d_Mo_drawn_51 (Nat.le_of_ble_eq_true rfl) (Nat.le_of_ble_eq_true rfl) rfl
theorem K_Mo_drawn (n : Nat) (E : zE) (S : zS) (a0 : Nat) (x1 : Int32) (x2 : Int32) (M : zH) (r : Int32) (M' : zH)  (h : F_Mo_drawn n E S a0 x1 x2 M = some (r, M')) : zG E Y_Mo_drawn (some (.int r), S, M') 0 [(0, .ref a0), (1, .int x1), (2, .int x2)] [] S M 0 0 := by
  unfold F_Mo_drawn at h
  refine zi_aload_n 0 d_Mo_drawn_0 rfl ?_
  refine zi_iconst 0 d_Mo_drawn_1 rfl ?_
  obtain ⟨m_5, em_5, h⟩ := zbind h
  refine zo_putI 5 zkd_11 0 d_Mo_drawn_2 em_5 rfl rfl rfl tw_1231 rfl ?_
  refine zi_aload_n 0 d_Mo_drawn_5 rfl ?_
  obtain ⟨v_6, ev_6, h⟩ := zbind h
  refine zo_getI 9 zkd_11 56 d_Mo_drawn_6 ev_6 rfl tw_1287 rfl ?_
  refine zi_iconst (-1) d_Mo_drawn_9 rfl ?_
  refine zi_icmp_eq (tgt := 50) d_Mo_drawn_10 rfl (fun c_7 => ?_) (fun c_7 => ?_)
  · rw [if_pos c_7] at h
    refine zi_iconst (-1) d_Mo_drawn_50 rfl ?_
    cases h
    exact zo_ret d_Mo_drawn_51 (Nat.le_of_ble_eq_true rfl) (Nat.le_of_ble_eq_true rfl) rfl
  · rw [if_neg c_7] at h
    refine zi_iload_n 2 d_Mo_drawn_13 rfl ?_
    refine zi_i2l d_Mo_drawn_14 ?_
    refine zi_lconst 0 d_Mo_drawn_15 rfl ?_
    refine zi_ldc2 d_Mo_drawn_16 tw_1644 ?_
    obtain ⟨q_8, eq_8, h⟩ := zbind h
    refine zo_stat (k' := 0) (n' := 0) 22 [.long x2.toInt64, .long 0, .long 2] [] [.int (bI q_8.1)] (C_Mo_in n E S x2.toInt64 0 2 m_5 q_8.1 q_8.2 eq_8) d_Mo_drawn_19 tw_1421 tw_1419 tw_1420 tw_13 dd_Mo_in ⟨Nat.le_of_ble_eq_true rfl, Nat.le_of_ble_eq_true rfl, Nat.le_of_ble_eq_true rfl, Nat.le_of_ble_eq_true rfl⟩ (Nat.le_of_ble_eq_true rfl) rfl rfl rfl rfl ?_
    refine zo_ifeqB d_Mo_drawn_22 rfl 25 rfl (fun c_9 => ?_) (fun c_9 => ?_)
    · rw [if_neg c_9] at h
      refine zi_iconst (-1) d_Mo_drawn_50 rfl ?_
      cases h
      exact zo_ret d_Mo_drawn_51 (Nat.le_of_ble_eq_true rfl) (Nat.le_of_ble_eq_true rfl) rfl
    · rw [if_pos c_9] at h
      refine zi_iload_n 1 d_Mo_drawn_25 rfl ?_
      refine zi_i2l d_Mo_drawn_26 ?_
      refine zi_lconst 0 d_Mo_drawn_27 rfl ?_
      refine zi_iload_n 2 d_Mo_drawn_28 rfl ?_
      refine zi_iconst 2 d_Mo_drawn_29 rfl ?_
      refine zi_icmp_ge (tgt := 37) d_Mo_drawn_30 rfl (fun c_10 => ?_) (fun c_10 => ?_)
      · rw [if_pos c_10] at h
        refine zi_aload_n 0 d_Mo_drawn_37 rfl ?_
        obtain ⟨v_11, ev_11, h⟩ := zbind h
        refine zo_getI 41 zkd_11 56 d_Mo_drawn_38 ev_11 rfl tw_1287 rfl ?_
        refine zi_lo [(0, .ref a0), (1, .int x1), (2, .int x2)] [0, 1, 2] rfl ?_
        exact K_Mo_drawn_b41 n E S a0 x1 x2 v_11 0 x1.toInt64 q_8.2 r M'  h
      · rw [if_neg c_10] at h
        refine zi_iconst 4 d_Mo_drawn_33 rfl ?_
        refine zi_goto (tgt := 41) d_Mo_drawn_34 rfl ?_
        refine zi_lo [(0, .ref a0), (1, .int x1), (2, .int x2)] [0, 1, 2] rfl ?_
        exact K_Mo_drawn_b41 n E S a0 x1 x2 4 0 x1.toInt64 q_8.2 r M'  h
theorem C_Mo_drawn (n : Nat) (E : zE) (S : zS) (a0 : Nat) (x1 : Int32) (x2 : Int32) (M : zH) (r : Int32) (M' : zH) (h : F_Mo_drawn n E S a0 x1 x2 M = some (r, M')) : zC E Y_Mo_drawn [.ref a0, .int x1, .int x2] S M (some (.int r), S, M') :=
  zC.of (Or.inl (show plainName "NightColanderModel" = true by decide)) (Nat.le_of_ble_eq_true rfl) (trivial) (K_Mo_drawn n E S a0 x1 x2 M r M' h)
theorem d_Mo_blockedOnes_0 : decode (yB Y_Mo_blockedOnes) 0 = .ok (.iconst 0, 1) := by decide +kernel
theorem d_Mo_blockedOnes_1 : decode (yB Y_Mo_blockedOnes) 1 = .ok (.istore_n 1, 1) := by decide +kernel
theorem d_Mo_blockedOnes_2 : decode (yB Y_Mo_blockedOnes) 2 = .ok (.iconst 0, 1) := by decide +kernel
theorem d_Mo_blockedOnes_3 : decode (yB Y_Mo_blockedOnes) 3 = .ok (.istore_n 2, 1) := by decide +kernel
theorem d_Mo_blockedOnes_4 : decode (yB Y_Mo_blockedOnes) 4 = .ok (.iload_n 2, 1) := by decide +kernel
theorem d_Mo_blockedOnes_5 : decode (yB Y_Mo_blockedOnes) 5 = .ok (.iconst 4, 1) := by decide +kernel
theorem d_Mo_blockedOnes_6 : decode (yB Y_Mo_blockedOnes) 6 = .ok (.if_icmp .ge 24, 3) := by decide +kernel
theorem d_Mo_blockedOnes_9 : decode (yB Y_Mo_blockedOnes) 9 = .ok (.iload_n 1, 1) := by decide +kernel
theorem d_Mo_blockedOnes_10 : decode (yB Y_Mo_blockedOnes) 10 = .ok (.aload_n 0, 1) := by decide +kernel
theorem d_Mo_blockedOnes_11 : decode (yB Y_Mo_blockedOnes) 11 = .ok (.getfield 13, 3) := by decide +kernel
theorem d_Mo_blockedOnes_14 : decode (yB Y_Mo_blockedOnes) 14 = .ok (.bipush 44, 2) := by decide +kernel
theorem d_Mo_blockedOnes_16 : decode (yB Y_Mo_blockedOnes) 16 = .ok (.iload_n 2, 1) := by decide +kernel
theorem d_Mo_blockedOnes_17 : decode (yB Y_Mo_blockedOnes) 17 = .ok (.iadd, 1) := by decide +kernel
theorem d_Mo_blockedOnes_18 : decode (yB Y_Mo_blockedOnes) 18 = .ok (.iaload, 1) := by decide +kernel
theorem d_Mo_blockedOnes_19 : decode (yB Y_Mo_blockedOnes) 19 = .ok (.invokestatic 187, 3) := by decide +kernel
theorem d_Mo_blockedOnes_22 : decode (yB Y_Mo_blockedOnes) 22 = .ok (.iadd, 1) := by decide +kernel
theorem d_Mo_blockedOnes_23 : decode (yB Y_Mo_blockedOnes) 23 = .ok (.istore_n 1, 1) := by decide +kernel
theorem d_Mo_blockedOnes_24 : decode (yB Y_Mo_blockedOnes) 24 = .ok (.iinc 2 1, 3) := by decide +kernel
theorem d_Mo_blockedOnes_27 : decode (yB Y_Mo_blockedOnes) 27 = .ok (.goto (-23), 3) := by decide +kernel
theorem d_Mo_blockedOnes_30 : decode (yB Y_Mo_blockedOnes) 30 = .ok (.iload_n 1, 1) := by decide +kernel
theorem d_Mo_blockedOnes_31 : decode (yB Y_Mo_blockedOnes) 31 = .ok (.ireturn, 1) := by decide +kernel
def F_Mo_blockedOnes_L4 (n : Nat) (E : zE) (S : zS) (r4 : Nat × Int32 × Int32 × zH → Option (Int32 × zH)) (a0 : Nat) (x1 : Int32) (x2 : Int32) (M : zH) : Option (Int32 × zH) :=
  if 4 ≤ x2 then
    some (x1, M)
  else
    (zgR S a0 11 3).bind fun b_2 =>
    (zldI S M b_2 (44 + x2)).bind fun v_3 =>
    (F_Mo_ones n E S v_3 M).bind fun q_4 =>
    r4 (a0, x1 + q_4.1, x2 + 1, q_4.2)
def F_Mo_blockedOnes_b4 (n : Nat) (E : zE) (S : zS) : Nat × Int32 × Int32 × zH → Option (Int32 × zH) := zfix (fun r4 s => F_Mo_blockedOnes_L4 n E S r4 s.1 s.2.1 s.2.2.1 s.2.2.2) n
def F_Mo_blockedOnes (n : Nat) (E : zE) (S : zS) (a0 : Nat) (M : zH) : Option (Int32 × zH) :=
  F_Mo_blockedOnes_b4 n E S (a0, 0, 0, M)
theorem K_Mo_blockedOnes_L4 (n : Nat) (E : zE) (S : zS) (r4 : Nat × Int32 × Int32 × zH → Option (Int32 × zH)) (a0 : Nat) (x1 : Int32) (x2 : Int32) (M : zH) (r : Int32) (M' : zH) (hr4 : ∀ (a0 : Nat) (x1 : Int32) (x2 : Int32) (M : zH), r4 (a0, x1, x2, M) = some (r, M') → zG E Y_Mo_blockedOnes (some (.int r), S, M') 4 [(0, .ref a0), (1, .int x1), (2, .int x2)] [] S M 0 0) (h : F_Mo_blockedOnes_L4 n E S r4 a0 x1 x2 M = some (r, M')) : zG E Y_Mo_blockedOnes (some (.int r), S, M') 4 [(0, .ref a0), (1, .int x1), (2, .int x2)] [] S M 0 0 := by
  unfold F_Mo_blockedOnes_L4 at h
  refine zi_iload_n 2 d_Mo_blockedOnes_4 rfl ?_
  refine zi_iconst 4 d_Mo_blockedOnes_5 rfl ?_
  refine zi_icmp_ge (tgt := 30) d_Mo_blockedOnes_6 rfl (fun c_1 => ?_) (fun c_1 => ?_)
  · rw [if_pos c_1] at h
    refine zi_iload_n 1 d_Mo_blockedOnes_30 rfl ?_
    cases h
    exact zo_ret d_Mo_blockedOnes_31 (Nat.le_of_ble_eq_true rfl) (Nat.le_of_ble_eq_true rfl) rfl
  · rw [if_neg c_1] at h
    refine zi_iload_n 1 d_Mo_blockedOnes_9 rfl ?_
    refine zi_aload_n 0 d_Mo_blockedOnes_10 rfl ?_
    obtain ⟨b_2, eb_2, h⟩ := zbind h
    refine zo_getR 14 zkd_11 3 d_Mo_blockedOnes_11 eb_2 rfl tw_1234 rfl ?_
    refine zi_bipush 44 d_Mo_blockedOnes_14 rfl ?_
    refine zi_iload_n 2 d_Mo_blockedOnes_16 rfl ?_
    refine zi_iadd d_Mo_blockedOnes_17 ?_
    obtain ⟨v_3, ev_3, h⟩ := zbind h
    refine zo_iald 19 d_Mo_blockedOnes_18 ev_3 rfl ?_
    obtain ⟨q_4, eq_4, h⟩ := zbind h
    refine zo_stat (k' := 0) (n' := 0) 22 [.int v_3] [.int x1] [.int q_4.1, .int x1] (C_Mo_ones n E S v_3 M q_4.1 q_4.2 eq_4) d_Mo_blockedOnes_19 tw_1820 tw_1818 tw_1819 tw_13 dd_Mo_ones ⟨Nat.le_of_ble_eq_true rfl, Nat.le_of_ble_eq_true rfl, Nat.le_of_ble_eq_true rfl, Nat.le_of_ble_eq_true rfl⟩ (Nat.le_of_ble_eq_true rfl) rfl rfl rfl rfl ?_
    refine zi_iadd d_Mo_blockedOnes_22 ?_
    refine zi_istore_n [(1, .int (x1 + q_4.1)), (0, .ref a0), (2, .int x2)] d_Mo_blockedOnes_23 (by decide) rfl ?_
    refine zi_iinc 2 (x2 + 1) [(2, .int (x2 + 1)), (1, .int (x1 + q_4.1)), (0, .ref a0)] d_Mo_blockedOnes_24 rfl rfl (by decide) rfl ?_
    refine zi_goto (tgt := 4) d_Mo_blockedOnes_27 rfl ?_
    refine zi_lo [(0, .ref a0), (1, .int (x1 + q_4.1)), (2, .int (x2 + 1))] [2, 1, 0] rfl ?_
    exact hr4 a0 (x1 + q_4.1) (x2 + 1) q_4.2 h
theorem K_Mo_blockedOnes_b4 (n : Nat) (E : zE) (S : zS) (a0 : Nat) (x1 : Int32) (x2 : Int32) (M : zH) (r : Int32) (M' : zH)  (h : F_Mo_blockedOnes_b4 n E S (a0, x1, x2, M) = some (r, M')) : zG E Y_Mo_blockedOnes (some (.int r), S, M') 4 [(0, .ref a0), (1, .int x1), (2, .int x2)] [] S M 0 0 := by
  have key : ∀ (k : Nat) (a0 : Nat) (x1 : Int32) (x2 : Int32) (M : zH), zfix (fun r4 s => F_Mo_blockedOnes_L4 n E S r4 s.1 s.2.1 s.2.2.1 s.2.2.2) k (a0, x1, x2, M) = some (r, M') → zG E Y_Mo_blockedOnes (some (.int r), S, M') 4 [(0, .ref a0), (1, .int x1), (2, .int x2)] [] S M 0 0 := by
    intro k
    induction k with
    | zero => intro a0 x1 x2 M h; cases h
    | succ k ih => intro a0 x1 x2 M h; exact K_Mo_blockedOnes_L4 n E S _ a0 x1 x2 M r M'  (fun a0 x1 x2 M h => ih a0 x1 x2 M h) h
  exact key n a0 x1 x2 M h
theorem K_Mo_blockedOnes (n : Nat) (E : zE) (S : zS) (a0 : Nat) (M : zH) (r : Int32) (M' : zH)  (h : F_Mo_blockedOnes n E S a0 M = some (r, M')) : zG E Y_Mo_blockedOnes (some (.int r), S, M') 0 [(0, .ref a0)] [] S M 0 0 := by
  unfold F_Mo_blockedOnes at h
  refine zi_iconst 0 d_Mo_blockedOnes_0 rfl ?_
  refine zi_istore_n [(1, .int 0), (0, .ref a0)] d_Mo_blockedOnes_1 (by decide) rfl ?_
  refine zi_iconst 0 d_Mo_blockedOnes_2 rfl ?_
  refine zi_istore_n [(2, .int 0), (1, .int 0), (0, .ref a0)] d_Mo_blockedOnes_3 (by decide) rfl ?_
  refine zi_lo [(0, .ref a0), (1, .int 0), (2, .int 0)] [2, 1, 0] rfl ?_
  exact K_Mo_blockedOnes_b4 n E S a0 0 0 M r M'  h
theorem C_Mo_blockedOnes (n : Nat) (E : zE) (S : zS) (a0 : Nat) (M : zH) (r : Int32) (M' : zH) (h : F_Mo_blockedOnes n E S a0 M = some (r, M')) : zC E Y_Mo_blockedOnes [.ref a0] S M (some (.int r), S, M') :=
  zC.of (Or.inl (show plainName "NightColanderModel" = true by decide)) (Nat.le_of_ble_eq_true rfl) (trivial) (K_Mo_blockedOnes n E S a0 M r M' h)
theorem d_Mo_count_0 : decode (yB Y_Mo_count) 0 = .ok (.aload_n 0, 1) := by decide +kernel
theorem d_Mo_count_1 : decode (yB Y_Mo_count) 1 = .ok (.iconst 0, 1) := by decide +kernel
theorem d_Mo_count_2 : decode (yB Y_Mo_count) 2 = .ok (.putfield 156, 3) := by decide +kernel
theorem d_Mo_count_5 : decode (yB Y_Mo_count) 5 = .ok (.iload_n 1, 1) := by decide +kernel
theorem d_Mo_count_6 : decode (yB Y_Mo_count) 6 = .ok (.tableswitch 150 0 12 #[66, 73, 78, 83, 90, 97, 102, 107, 114, 121, 128, 135, 143], 66) := by decide +kernel
theorem d_Mo_count_72 : decode (yB Y_Mo_count) 72 = .ok (.aload_n 0, 1) := by decide +kernel
theorem d_Mo_count_73 : decode (yB Y_Mo_count) 73 = .ok (.getfield 13, 3) := by decide +kernel
theorem d_Mo_count_76 : decode (yB Y_Mo_count) 76 = .ok (.iconst 0, 1) := by decide +kernel
theorem d_Mo_count_77 : decode (yB Y_Mo_count) 77 = .ok (.iaload, 1) := by decide +kernel
theorem d_Mo_count_78 : decode (yB Y_Mo_count) 78 = .ok (.ireturn, 1) := by decide +kernel
theorem d_Mo_count_79 : decode (yB Y_Mo_count) 79 = .ok (.aload_n 0, 1) := by decide +kernel
theorem d_Mo_count_80 : decode (yB Y_Mo_count) 80 = .ok (.invokevirtual 523, 3) := by decide +kernel
theorem d_Mo_count_83 : decode (yB Y_Mo_count) 83 = .ok (.ireturn, 1) := by decide +kernel
theorem d_Mo_count_84 : decode (yB Y_Mo_count) 84 = .ok (.aload_n 0, 1) := by decide +kernel
theorem d_Mo_count_85 : decode (yB Y_Mo_count) 85 = .ok (.invokevirtual 555, 3) := by decide +kernel
theorem d_Mo_count_88 : decode (yB Y_Mo_count) 88 = .ok (.ireturn, 1) := by decide +kernel
theorem d_Mo_count_89 : decode (yB Y_Mo_count) 89 = .ok (.aload_n 0, 1) := by decide +kernel
theorem d_Mo_count_90 : decode (yB Y_Mo_count) 90 = .ok (.getfield 13, 3) := by decide +kernel
theorem d_Mo_count_93 : decode (yB Y_Mo_count) 93 = .ok (.iconst 1, 1) := by decide +kernel
theorem d_Mo_count_94 : decode (yB Y_Mo_count) 94 = .ok (.iaload, 1) := by decide +kernel
theorem d_Mo_count_95 : decode (yB Y_Mo_count) 95 = .ok (.ireturn, 1) := by decide +kernel
theorem d_Mo_count_96 : decode (yB Y_Mo_count) 96 = .ok (.aload_n 0, 1) := by decide +kernel
theorem d_Mo_count_97 : decode (yB Y_Mo_count) 97 = .ok (.getfield 13, 3) := by decide +kernel
theorem d_Mo_count_100 : decode (yB Y_Mo_count) 100 = .ok (.iconst 2, 1) := by decide +kernel
theorem d_Mo_count_101 : decode (yB Y_Mo_count) 101 = .ok (.iaload, 1) := by decide +kernel
theorem d_Mo_count_102 : decode (yB Y_Mo_count) 102 = .ok (.ireturn, 1) := by decide +kernel
theorem d_Mo_count_103 : decode (yB Y_Mo_count) 103 = .ok (.aload_n 0, 1) := by decide +kernel
theorem d_Mo_count_104 : decode (yB Y_Mo_count) 104 = .ok (.getfield 162, 3) := by decide +kernel
theorem d_Mo_count_107 : decode (yB Y_Mo_count) 107 = .ok (.ireturn, 1) := by decide +kernel
theorem d_Mo_count_108 : decode (yB Y_Mo_count) 108 = .ok (.aload_n 0, 1) := by decide +kernel
theorem d_Mo_count_109 : decode (yB Y_Mo_count) 109 = .ok (.getfield 244, 3) := by decide +kernel
theorem d_Mo_count_112 : decode (yB Y_Mo_count) 112 = .ok (.ireturn, 1) := by decide +kernel
theorem d_Mo_count_113 : decode (yB Y_Mo_count) 113 = .ok (.aload_n 0, 1) := by decide +kernel
theorem d_Mo_count_114 : decode (yB Y_Mo_count) 114 = .ok (.getfield 7, 3) := by decide +kernel
theorem d_Mo_count_117 : decode (yB Y_Mo_count) 117 = .ok (.iconst 1, 1) := by decide +kernel
theorem d_Mo_count_118 : decode (yB Y_Mo_count) 118 = .ok (.iaload, 1) := by decide +kernel
theorem d_Mo_count_119 : decode (yB Y_Mo_count) 119 = .ok (.ireturn, 1) := by decide +kernel
theorem d_Mo_count_120 : decode (yB Y_Mo_count) 120 = .ok (.aload_n 0, 1) := by decide +kernel
theorem d_Mo_count_121 : decode (yB Y_Mo_count) 121 = .ok (.getfield 7, 3) := by decide +kernel
theorem d_Mo_count_124 : decode (yB Y_Mo_count) 124 = .ok (.iconst 2, 1) := by decide +kernel
theorem d_Mo_count_125 : decode (yB Y_Mo_count) 125 = .ok (.iaload, 1) := by decide +kernel
theorem d_Mo_count_126 : decode (yB Y_Mo_count) 126 = .ok (.ireturn, 1) := by decide +kernel
theorem d_Mo_count_127 : decode (yB Y_Mo_count) 127 = .ok (.aload_n 0, 1) := by decide +kernel
theorem d_Mo_count_128 : decode (yB Y_Mo_count) 128 = .ok (.getfield 7, 3) := by decide +kernel
theorem d_Mo_count_131 : decode (yB Y_Mo_count) 131 = .ok (.iconst 3, 1) := by decide +kernel
theorem d_Mo_count_132 : decode (yB Y_Mo_count) 132 = .ok (.iaload, 1) := by decide +kernel
theorem d_Mo_count_133 : decode (yB Y_Mo_count) 133 = .ok (.ireturn, 1) := by decide +kernel
theorem d_Mo_count_134 : decode (yB Y_Mo_count) 134 = .ok (.aload_n 0, 1) := by decide +kernel
theorem d_Mo_count_135 : decode (yB Y_Mo_count) 135 = .ok (.getfield 7, 3) := by decide +kernel
theorem d_Mo_count_138 : decode (yB Y_Mo_count) 138 = .ok (.iconst 5, 1) := by decide +kernel
theorem d_Mo_count_139 : decode (yB Y_Mo_count) 139 = .ok (.iaload, 1) := by decide +kernel
theorem d_Mo_count_140 : decode (yB Y_Mo_count) 140 = .ok (.ireturn, 1) := by decide +kernel
theorem d_Mo_count_141 : decode (yB Y_Mo_count) 141 = .ok (.aload_n 0, 1) := by decide +kernel
theorem d_Mo_count_142 : decode (yB Y_Mo_count) 142 = .ok (.getfield 7, 3) := by decide +kernel
theorem d_Mo_count_145 : decode (yB Y_Mo_count) 145 = .ok (.bipush 6, 2) := by decide +kernel
theorem d_Mo_count_147 : decode (yB Y_Mo_count) 147 = .ok (.iaload, 1) := by decide +kernel
theorem d_Mo_count_148 : decode (yB Y_Mo_count) 148 = .ok (.ireturn, 1) := by decide +kernel
theorem d_Mo_count_149 : decode (yB Y_Mo_count) 149 = .ok (.aload_n 0, 1) := by decide +kernel
theorem d_Mo_count_150 : decode (yB Y_Mo_count) 150 = .ok (.getfield 13, 3) := by decide +kernel
theorem d_Mo_count_153 : decode (yB Y_Mo_count) 153 = .ok (.iconst 3, 1) := by decide +kernel
theorem d_Mo_count_154 : decode (yB Y_Mo_count) 154 = .ok (.iaload, 1) := by decide +kernel
theorem d_Mo_count_155 : decode (yB Y_Mo_count) 155 = .ok (.ireturn, 1) := by decide +kernel
theorem d_Mo_count_156 : decode (yB Y_Mo_count) 156 = .ok (.iload_n 1, 1) := by decide +kernel
theorem d_Mo_count_157 : decode (yB Y_Mo_count) 157 = .ok (.i2l, 1) := by decide +kernel
theorem d_Mo_count_158 : decode (yB Y_Mo_count) 158 = .ok (.ldc2_w 558, 3) := by decide +kernel
theorem d_Mo_count_161 : decode (yB Y_Mo_count) 161 = .ok (.ldc2_w 560, 3) := by decide +kernel
theorem d_Mo_count_164 : decode (yB Y_Mo_count) 164 = .ok (.invokestatic 176, 3) := by decide +kernel
theorem d_Mo_count_167 : decode (yB Y_Mo_count) 167 = .ok (.ifCond .eq 17, 3) := by decide +kernel
theorem d_Mo_count_170 : decode (yB Y_Mo_count) 170 = .ok (.aload_n 0, 1) := by decide +kernel
theorem d_Mo_count_171 : decode (yB Y_Mo_count) 171 = .ok (.getfield 13, 3) := by decide +kernel
theorem d_Mo_count_174 : decode (yB Y_Mo_count) 174 = .ok (.iconst 4, 1) := by decide +kernel
theorem d_Mo_count_175 : decode (yB Y_Mo_count) 175 = .ok (.iload_n 1, 1) := by decide +kernel
theorem d_Mo_count_176 : decode (yB Y_Mo_count) 176 = .ok (.iadd, 1) := by decide +kernel
theorem d_Mo_count_177 : decode (yB Y_Mo_count) 177 = .ok (.bipush 13, 2) := by decide +kernel
theorem d_Mo_count_179 : decode (yB Y_Mo_count) 179 = .ok (.isub, 1) := by decide +kernel
theorem d_Mo_count_180 : decode (yB Y_Mo_count) 180 = .ok (.iaload, 1) := by decide +kernel
theorem d_Mo_count_181 : decode (yB Y_Mo_count) 181 = .ok (.goto 4, 3) := by decide +kernel
theorem d_Mo_count_184 : decode (yB Y_Mo_count) 184 = .ok (.iconst (-1), 1) := by decide +kernel
theorem d_Mo_count_185 : decode (yB Y_Mo_count) 185 = .ok (.ireturn, 1) := by decide +kernel
def F_Mo_count (n : Nat) (E : zE) (S : zS) (a0 : Nat) (x1 : Int32) (M : zH) : Option (Int32 × zH) :=
  (zpI S M a0 11 0 0).bind fun m_1 =>
  if x1 = 0 then
    (zgR S a0 11 3).bind fun b_3 =>
    (zldI S m_1 b_3 0).bind fun v_4 =>
    some (v_4, m_1)
  else
  if x1 = 1 then
    (zck S a0 11).bind fun u_6 =>
    (F_Mo_levels n E S a0 m_1).bind fun q_7 =>
    some (q_7.1, q_7.2)
  else
  if x1 = 2 then
    (zck S a0 11).bind fun u_9 =>
    (F_Mo_blockedOnes n E S a0 m_1).bind fun q_10 =>
    some (q_10.1, q_10.2)
  else
  if x1 = 3 then
    (zgR S a0 11 3).bind fun b_12 =>
    (zldI S m_1 b_12 1).bind fun v_13 =>
    some (v_13, m_1)
  else
  if x1 = 4 then
    (zgR S a0 11 3).bind fun b_15 =>
    (zldI S m_1 b_15 2).bind fun v_16 =>
    some (v_16, m_1)
  else
  if x1 = 5 then
    (zgI S m_1 a0 11 8).bind fun v_18 =>
    some (v_18, m_1)
  else
  if x1 = 6 then
    (zgI S m_1 a0 11 13).bind fun v_20 =>
    some (v_20, m_1)
  else
  if x1 = 7 then
    (zgR S a0 11 2).bind fun b_22 =>
    (zldI S m_1 b_22 1).bind fun v_23 =>
    some (v_23, m_1)
  else
  if x1 = 8 then
    (zgR S a0 11 2).bind fun b_25 =>
    (zldI S m_1 b_25 2).bind fun v_26 =>
    some (v_26, m_1)
  else
  if x1 = 9 then
    (zgR S a0 11 2).bind fun b_28 =>
    (zldI S m_1 b_28 3).bind fun v_29 =>
    some (v_29, m_1)
  else
  if x1 = 10 then
    (zgR S a0 11 2).bind fun b_31 =>
    (zldI S m_1 b_31 5).bind fun v_32 =>
    some (v_32, m_1)
  else
  if x1 = 11 then
    (zgR S a0 11 2).bind fun b_34 =>
    (zldI S m_1 b_34 6).bind fun v_35 =>
    some (v_35, m_1)
  else
  if x1 = 12 then
    (zgR S a0 11 3).bind fun b_37 =>
    (zldI S m_1 b_37 3).bind fun v_38 =>
    some (v_38, m_1)
  else
    (F_Mo_in n E S x1.toInt64 13 16 m_1).bind fun q_39 =>
    if q_39.1 = true then
      (zgR S a0 11 3).bind fun b_41 =>
      (zldI S q_39.2 b_41 ((4 + x1) - 13)).bind fun v_42 =>
      some (v_42, q_39.2)
    else
      some ((-1), q_39.2)
theorem K_Mo_count (n : Nat) (E : zE) (S : zS) (a0 : Nat) (x1 : Int32) (M : zH) (r : Int32) (M' : zH)  (h : F_Mo_count n E S a0 x1 M = some (r, M')) : zG E Y_Mo_count (some (.int r), S, M') 0 [(0, .ref a0), (1, .int x1)] [] S M 0 0 := by
  unfold F_Mo_count at h
  refine zi_aload_n 0 d_Mo_count_0 rfl ?_
  refine zi_iconst 0 d_Mo_count_1 rfl ?_
  obtain ⟨m_1, em_1, h⟩ := zbind h
  refine zo_putI 5 zkd_11 0 d_Mo_count_2 em_1 rfl rfl rfl tw_1231 rfl ?_
  refine zi_iload_n 1 d_Mo_count_5 rfl ?_
  by_cases c_2 : x1 = 0
  · rw [if_pos c_2] at h
    refine zo_tab (tgt := 72) 0 d_Mo_count_6 c_2 (by decide) (by decide) rfl rfl ?_
    refine zi_aload_n 0 d_Mo_count_72 rfl ?_
    obtain ⟨b_3, eb_3, h⟩ := zbind h
    refine zo_getR 76 zkd_11 3 d_Mo_count_73 eb_3 rfl tw_1234 rfl ?_
    refine zi_iconst 0 d_Mo_count_76 rfl ?_
    obtain ⟨v_4, ev_4, h⟩ := zbind h
    refine zo_iald 78 d_Mo_count_77 ev_4 rfl ?_
    cases h
    exact zo_ret d_Mo_count_78 (Nat.le_of_ble_eq_true rfl) (Nat.le_of_ble_eq_true rfl) rfl
  rw [if_neg c_2] at h
  by_cases c_5 : x1 = 1
  · rw [if_pos c_5] at h
    refine zo_tab (tgt := 79) 1 d_Mo_count_6 c_5 (by decide) (by decide) rfl rfl ?_
    refine zi_aload_n 0 d_Mo_count_79 rfl ?_
    obtain ⟨u_6, eu_6, h⟩ := zbind h
    obtain ⟨q_7, eq_7, h⟩ := zbind h
    refine zo_virt (k' := 0) (n' := 0) 83 [] [] [.int q_7.1] zkd_11 (zck_s eu_6) (C_Mo_levels n E S a0 m_1 q_7.1 q_7.2 eq_7) d_Mo_count_80 tw_1868 tw_1865 tw_1867 ts_99 tw_13 dd_Mo_levels ⟨Nat.le_of_ble_eq_true rfl, Nat.le_of_ble_eq_true rfl, Nat.le_of_ble_eq_true rfl, Nat.le_of_ble_eq_true rfl⟩ (Nat.le_of_ble_eq_true rfl) rfl rfl rfl rfl ?_
    cases h
    exact zo_ret d_Mo_count_83 (Nat.le_of_ble_eq_true rfl) (Nat.le_of_ble_eq_true rfl) rfl
  rw [if_neg c_5] at h
  by_cases c_8 : x1 = 2
  · rw [if_pos c_8] at h
    refine zo_tab (tgt := 84) 2 d_Mo_count_6 c_8 (by decide) (by decide) rfl rfl ?_
    refine zi_aload_n 0 d_Mo_count_84 rfl ?_
    obtain ⟨u_9, eu_9, h⟩ := zbind h
    obtain ⟨q_10, eq_10, h⟩ := zbind h
    refine zo_virt (k' := 0) (n' := 0) 88 [] [] [.int q_10.1] zkd_11 (zck_s eu_9) (C_Mo_blockedOnes n E S a0 m_1 q_10.1 q_10.2 eq_10) d_Mo_count_85 tw_1908 tw_1905 tw_1907 ts_104 tw_13 dd_Mo_blockedOnes ⟨Nat.le_of_ble_eq_true rfl, Nat.le_of_ble_eq_true rfl, Nat.le_of_ble_eq_true rfl, Nat.le_of_ble_eq_true rfl⟩ (Nat.le_of_ble_eq_true rfl) rfl rfl rfl rfl ?_
    cases h
    exact zo_ret d_Mo_count_88 (Nat.le_of_ble_eq_true rfl) (Nat.le_of_ble_eq_true rfl) rfl
  rw [if_neg c_8] at h
  by_cases c_11 : x1 = 3
  · rw [if_pos c_11] at h
    refine zo_tab (tgt := 89) 3 d_Mo_count_6 c_11 (by decide) (by decide) rfl rfl ?_
    refine zi_aload_n 0 d_Mo_count_89 rfl ?_
    obtain ⟨b_12, eb_12, h⟩ := zbind h
    refine zo_getR 93 zkd_11 3 d_Mo_count_90 eb_12 rfl tw_1234 rfl ?_
    refine zi_iconst 1 d_Mo_count_93 rfl ?_
    obtain ⟨v_13, ev_13, h⟩ := zbind h
    refine zo_iald 95 d_Mo_count_94 ev_13 rfl ?_
    cases h
    exact zo_ret d_Mo_count_95 (Nat.le_of_ble_eq_true rfl) (Nat.le_of_ble_eq_true rfl) rfl
  rw [if_neg c_11] at h
  by_cases c_14 : x1 = 4
  · rw [if_pos c_14] at h
    refine zo_tab (tgt := 96) 4 d_Mo_count_6 c_14 (by decide) (by decide) rfl rfl ?_
    refine zi_aload_n 0 d_Mo_count_96 rfl ?_
    obtain ⟨b_15, eb_15, h⟩ := zbind h
    refine zo_getR 100 zkd_11 3 d_Mo_count_97 eb_15 rfl tw_1234 rfl ?_
    refine zi_iconst 2 d_Mo_count_100 rfl ?_
    obtain ⟨v_16, ev_16, h⟩ := zbind h
    refine zo_iald 102 d_Mo_count_101 ev_16 rfl ?_
    cases h
    exact zo_ret d_Mo_count_102 (Nat.le_of_ble_eq_true rfl) (Nat.le_of_ble_eq_true rfl) rfl
  rw [if_neg c_14] at h
  by_cases c_17 : x1 = 5
  · rw [if_pos c_17] at h
    refine zo_tab (tgt := 103) 5 d_Mo_count_6 c_17 (by decide) (by decide) rfl rfl ?_
    refine zi_aload_n 0 d_Mo_count_103 rfl ?_
    obtain ⟨v_18, ev_18, h⟩ := zbind h
    refine zo_getI 107 zkd_11 8 d_Mo_count_104 ev_18 rfl tw_1239 rfl ?_
    cases h
    exact zo_ret d_Mo_count_107 (Nat.le_of_ble_eq_true rfl) (Nat.le_of_ble_eq_true rfl) rfl
  rw [if_neg c_17] at h
  by_cases c_19 : x1 = 6
  · rw [if_pos c_19] at h
    refine zo_tab (tgt := 108) 6 d_Mo_count_6 c_19 (by decide) (by decide) rfl rfl ?_
    refine zi_aload_n 0 d_Mo_count_108 rfl ?_
    obtain ⟨v_20, ev_20, h⟩ := zbind h
    refine zo_getI 112 zkd_11 13 d_Mo_count_109 ev_20 rfl tw_1244 rfl ?_
    cases h
    exact zo_ret d_Mo_count_112 (Nat.le_of_ble_eq_true rfl) (Nat.le_of_ble_eq_true rfl) rfl
  rw [if_neg c_19] at h
  by_cases c_21 : x1 = 7
  · rw [if_pos c_21] at h
    refine zo_tab (tgt := 113) 7 d_Mo_count_6 c_21 (by decide) (by decide) rfl rfl ?_
    refine zi_aload_n 0 d_Mo_count_113 rfl ?_
    obtain ⟨b_22, eb_22, h⟩ := zbind h
    refine zo_getR 117 zkd_11 2 d_Mo_count_114 eb_22 rfl tw_1233 rfl ?_
    refine zi_iconst 1 d_Mo_count_117 rfl ?_
    obtain ⟨v_23, ev_23, h⟩ := zbind h
    refine zo_iald 119 d_Mo_count_118 ev_23 rfl ?_
    cases h
    exact zo_ret d_Mo_count_119 (Nat.le_of_ble_eq_true rfl) (Nat.le_of_ble_eq_true rfl) rfl
  rw [if_neg c_21] at h
  by_cases c_24 : x1 = 8
  · rw [if_pos c_24] at h
    refine zo_tab (tgt := 120) 8 d_Mo_count_6 c_24 (by decide) (by decide) rfl rfl ?_
    refine zi_aload_n 0 d_Mo_count_120 rfl ?_
    obtain ⟨b_25, eb_25, h⟩ := zbind h
    refine zo_getR 124 zkd_11 2 d_Mo_count_121 eb_25 rfl tw_1233 rfl ?_
    refine zi_iconst 2 d_Mo_count_124 rfl ?_
    obtain ⟨v_26, ev_26, h⟩ := zbind h
    refine zo_iald 126 d_Mo_count_125 ev_26 rfl ?_
    cases h
    exact zo_ret d_Mo_count_126 (Nat.le_of_ble_eq_true rfl) (Nat.le_of_ble_eq_true rfl) rfl
  rw [if_neg c_24] at h
  by_cases c_27 : x1 = 9
  · rw [if_pos c_27] at h
    refine zo_tab (tgt := 127) 9 d_Mo_count_6 c_27 (by decide) (by decide) rfl rfl ?_
    refine zi_aload_n 0 d_Mo_count_127 rfl ?_
    obtain ⟨b_28, eb_28, h⟩ := zbind h
    refine zo_getR 131 zkd_11 2 d_Mo_count_128 eb_28 rfl tw_1233 rfl ?_
    refine zi_iconst 3 d_Mo_count_131 rfl ?_
    obtain ⟨v_29, ev_29, h⟩ := zbind h
    refine zo_iald 133 d_Mo_count_132 ev_29 rfl ?_
    cases h
    exact zo_ret d_Mo_count_133 (Nat.le_of_ble_eq_true rfl) (Nat.le_of_ble_eq_true rfl) rfl
  rw [if_neg c_27] at h
  by_cases c_30 : x1 = 10
  · rw [if_pos c_30] at h
    refine zo_tab (tgt := 134) 10 d_Mo_count_6 c_30 (by decide) (by decide) rfl rfl ?_
    refine zi_aload_n 0 d_Mo_count_134 rfl ?_
    obtain ⟨b_31, eb_31, h⟩ := zbind h
    refine zo_getR 138 zkd_11 2 d_Mo_count_135 eb_31 rfl tw_1233 rfl ?_
    refine zi_iconst 5 d_Mo_count_138 rfl ?_
    obtain ⟨v_32, ev_32, h⟩ := zbind h
    refine zo_iald 140 d_Mo_count_139 ev_32 rfl ?_
    cases h
    exact zo_ret d_Mo_count_140 (Nat.le_of_ble_eq_true rfl) (Nat.le_of_ble_eq_true rfl) rfl
  rw [if_neg c_30] at h
  by_cases c_33 : x1 = 11
  · rw [if_pos c_33] at h
    refine zo_tab (tgt := 141) 11 d_Mo_count_6 c_33 (by decide) (by decide) rfl rfl ?_
    refine zi_aload_n 0 d_Mo_count_141 rfl ?_
    obtain ⟨b_34, eb_34, h⟩ := zbind h
    refine zo_getR 145 zkd_11 2 d_Mo_count_142 eb_34 rfl tw_1233 rfl ?_
    refine zi_bipush 6 d_Mo_count_145 rfl ?_
    obtain ⟨v_35, ev_35, h⟩ := zbind h
    refine zo_iald 148 d_Mo_count_147 ev_35 rfl ?_
    cases h
    exact zo_ret d_Mo_count_148 (Nat.le_of_ble_eq_true rfl) (Nat.le_of_ble_eq_true rfl) rfl
  rw [if_neg c_33] at h
  by_cases c_36 : x1 = 12
  · rw [if_pos c_36] at h
    refine zo_tab (tgt := 149) 12 d_Mo_count_6 c_36 (by decide) (by decide) rfl rfl ?_
    refine zi_aload_n 0 d_Mo_count_149 rfl ?_
    obtain ⟨b_37, eb_37, h⟩ := zbind h
    refine zo_getR 153 zkd_11 3 d_Mo_count_150 eb_37 rfl tw_1234 rfl ?_
    refine zi_iconst 3 d_Mo_count_153 rfl ?_
    obtain ⟨v_38, ev_38, h⟩ := zbind h
    refine zo_iald 155 d_Mo_count_154 ev_38 rfl ?_
    cases h
    exact zo_ret d_Mo_count_155 (Nat.le_of_ble_eq_true rfl) (Nat.le_of_ble_eq_true rfl) rfl
  rw [if_neg c_36] at h
  refine zo_tabP (tgt := 156) 0 13 d_Mo_count_6 rfl rfl (fun j hj => by match j, hj with | 0, _ => exact c_2  | 1, _ => exact c_5  | 2, _ => exact c_8  | 3, _ => exact c_11  | 4, _ => exact c_14  | 5, _ => exact c_17  | 6, _ => exact c_19  | 7, _ => exact c_21  | 8, _ => exact c_24  | 9, _ => exact c_27  | 10, _ => exact c_30  | 11, _ => exact c_33  | 12, _ => exact c_36 | j + 13, hj => exact absurd hj (by omega)) rfl ?_
  refine zi_iload_n 1 d_Mo_count_156 rfl ?_
  refine zi_i2l d_Mo_count_157 ?_
  refine zi_ldc2 d_Mo_count_158 tw_1909 ?_
  refine zi_ldc2 d_Mo_count_161 tw_1910 ?_
  obtain ⟨q_39, eq_39, h⟩ := zbind h
  refine zo_stat (k' := 0) (n' := 0) 167 [.long x1.toInt64, .long 13, .long 16] [] [.int (bI q_39.1)] (C_Mo_in n E S x1.toInt64 13 16 m_1 q_39.1 q_39.2 eq_39) d_Mo_count_164 tw_1421 tw_1419 tw_1420 tw_13 dd_Mo_in ⟨Nat.le_of_ble_eq_true rfl, Nat.le_of_ble_eq_true rfl, Nat.le_of_ble_eq_true rfl, Nat.le_of_ble_eq_true rfl⟩ (Nat.le_of_ble_eq_true rfl) rfl rfl rfl rfl ?_
  refine zo_ifeqB d_Mo_count_167 rfl 170 rfl (fun c_40 => ?_) (fun c_40 => ?_)
  · rw [if_neg c_40] at h
    refine zi_iconst (-1) d_Mo_count_184 rfl ?_
    cases h
    exact zo_ret d_Mo_count_185 (Nat.le_of_ble_eq_true rfl) (Nat.le_of_ble_eq_true rfl) rfl
  · rw [if_pos c_40] at h
    refine zi_aload_n 0 d_Mo_count_170 rfl ?_
    obtain ⟨b_41, eb_41, h⟩ := zbind h
    refine zo_getR 174 zkd_11 3 d_Mo_count_171 eb_41 rfl tw_1234 rfl ?_
    refine zi_iconst 4 d_Mo_count_174 rfl ?_
    refine zi_iload_n 1 d_Mo_count_175 rfl ?_
    refine zi_iadd d_Mo_count_176 ?_
    refine zi_bipush 13 d_Mo_count_177 rfl ?_
    refine zi_isub d_Mo_count_179 ?_
    obtain ⟨v_42, ev_42, h⟩ := zbind h
    refine zo_iald 181 d_Mo_count_180 ev_42 rfl ?_
    refine zi_goto (tgt := 185) d_Mo_count_181 rfl ?_
    cases h
    exact zo_ret d_Mo_count_185 (Nat.le_of_ble_eq_true rfl) (Nat.le_of_ble_eq_true rfl) rfl
theorem C_Mo_count (n : Nat) (E : zE) (S : zS) (a0 : Nat) (x1 : Int32) (M : zH) (r : Int32) (M' : zH) (h : F_Mo_count n E S a0 x1 M = some (r, M')) : zC E Y_Mo_count [.ref a0, .int x1] S M (some (.int r), S, M') :=
  zC.of (Or.inl (show plainName "NightColanderModel" = true by decide)) (Nat.le_of_ble_eq_true rfl) (trivial) (K_Mo_count n E S a0 x1 M r M' h)
theorem d_Mo_status_0 : decode (yB Y_Mo_status) 0 = .ok (.aload_n 0, 1) := by decide +kernel
theorem d_Mo_status_1 : decode (yB Y_Mo_status) 1 = .ok (.iconst 0, 1) := by decide +kernel
theorem d_Mo_status_2 : decode (yB Y_Mo_status) 2 = .ok (.putfield 156, 3) := by decide +kernel
theorem d_Mo_status_5 : decode (yB Y_Mo_status) 5 = .ok (.aload_n 0, 1) := by decide +kernel
theorem d_Mo_status_6 : decode (yB Y_Mo_status) 6 = .ok (.getfield 159, 3) := by decide +kernel
theorem d_Mo_status_9 : decode (yB Y_Mo_status) 9 = .ok (.ireturn, 1) := by decide +kernel
def F_Mo_status (n : Nat) (E : zE) (S : zS) (a0 : Nat) (M : zH) : Option (Int32 × zH) :=
  (zpI S M a0 11 0 0).bind fun m_1 =>
  (zgI S m_1 a0 11 1).bind fun v_2 =>
  some (v_2, m_1)
theorem K_Mo_status (n : Nat) (E : zE) (S : zS) (a0 : Nat) (M : zH) (r : Int32) (M' : zH)  (h : F_Mo_status n E S a0 M = some (r, M')) : zG E Y_Mo_status (some (.int r), S, M') 0 [(0, .ref a0)] [] S M 0 0 := by
  unfold F_Mo_status at h
  refine zi_aload_n 0 d_Mo_status_0 rfl ?_
  refine zi_iconst 0 d_Mo_status_1 rfl ?_
  obtain ⟨m_1, em_1, h⟩ := zbind h
  refine zo_putI 5 zkd_11 0 d_Mo_status_2 em_1 rfl rfl rfl tw_1231 rfl ?_
  refine zi_aload_n 0 d_Mo_status_5 rfl ?_
  obtain ⟨v_2, ev_2, h⟩ := zbind h
  refine zo_getI 9 zkd_11 1 d_Mo_status_6 ev_2 rfl tw_1232 rfl ?_
  cases h
  exact zo_ret d_Mo_status_9 (Nat.le_of_ble_eq_true rfl) (Nat.le_of_ble_eq_true rfl) rfl
theorem C_Mo_status (n : Nat) (E : zE) (S : zS) (a0 : Nat) (M : zH) (r : Int32) (M' : zH) (h : F_Mo_status n E S a0 M = some (r, M')) : zC E Y_Mo_status [.ref a0] S M (some (.int r), S, M') :=
  zC.of (Or.inl (show plainName "NightColanderModel" = true by decide)) (Nat.le_of_ble_eq_true rfl) (trivial) (K_Mo_status n E S a0 M r M' h)
