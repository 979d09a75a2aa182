/-! METHODS (printed by gen/build.py): Mo_terms Mo_row Mo_peas Mo_four Mo_feed Mo_end Mo_fault Mo_isDigit Mo_isSmall Mo_next Mo_begin Mo_beginText Mo_must Mo_endText Mo_isSign Mo_isWord -/
theorem d_Mo_terms_0 : decode (yB Y_Mo_terms) 0 = .ok (.aload_n 0, 1) := by decide +kernel
theorem d_Mo_terms_1 : decode (yB Y_Mo_terms) 1 = .ok (.iconst 0, 1) := by decide +kernel
theorem d_Mo_terms_2 : decode (yB Y_Mo_terms) 2 = .ok (.putfield 156, 3) := by decide +kernel
theorem d_Mo_terms_5 : decode (yB Y_Mo_terms) 5 = .ok (.iload_n 1, 1) := by decide +kernel
theorem d_Mo_terms_6 : decode (yB Y_Mo_terms) 6 = .ok (.iload_n 2, 1) := by decide +kernel
theorem d_Mo_terms_7 : decode (yB Y_Mo_terms) 7 = .ok (.invokestatic 241, 3) := by decide +kernel
theorem d_Mo_terms_10 : decode (yB Y_Mo_terms) 10 = .ok (.ifCond .ne 9, 3) := by decide +kernel
theorem d_Mo_terms_13 : decode (yB Y_Mo_terms) 13 = .ok (.aload_n 0, 1) := by decide +kernel
theorem d_Mo_terms_14 : decode (yB Y_Mo_terms) 14 = .ok (.iconst (-1), 1) := by decide +kernel
theorem d_Mo_terms_15 : decode (yB Y_Mo_terms) 15 = .ok (.invokevirtual 165, 3) := by decide +kernel
theorem d_Mo_terms_18 : decode (yB Y_Mo_terms) 18 = .ok (.ireturn, 1) := by decide +kernel
theorem d_Mo_terms_19 : decode (yB Y_Mo_terms) 19 = .ok (.aload_n 0, 1) := by decide +kernel
theorem d_Mo_terms_20 : decode (yB Y_Mo_terms) 20 = .ok (.iconst 0, 1) := by decide +kernel
theorem d_Mo_terms_21 : decode (yB Y_Mo_terms) 21 = .ok (.putfield 162, 3) := by decide +kernel
theorem d_Mo_terms_24 : decode (yB Y_Mo_terms) 24 = .ok (.aload_n 0, 1) := by decide +kernel
theorem d_Mo_terms_25 : decode (yB Y_Mo_terms) 25 = .ok (.iconst 4, 1) := by decide +kernel
theorem d_Mo_terms_26 : decode (yB Y_Mo_terms) 26 = .ok (.iload_n 1, 1) := by decide +kernel
theorem d_Mo_terms_27 : decode (yB Y_Mo_terms) 27 = .ok (.iadd, 1) := by decide +kernel
theorem d_Mo_terms_28 : decode (yB Y_Mo_terms) 28 = .ok (.iload_n 2, 1) := by decide +kernel
theorem d_Mo_terms_29 : decode (yB Y_Mo_terms) 29 = .ok (.invokevirtual 205, 3) := by decide +kernel
theorem d_Mo_terms_32 : decode (yB Y_Mo_terms) 32 = .ok (.ireturn, 1) := by decide +kernel
def F_Mo_terms (n : Nat) (E : zE) (S : zS) (a0 : Nat) (x1 : Int32) (x2 : Int32) (M : zH) : Option (Int32 × zH) :=
  (zpI S M a0 11 0 0).bind fun m1 =>
  (F_Mo_isTerm n E S x1 x2 m1).bind fun q2 =>
  if q2.1 = true then
    (zpI S q2.2 a0 11 8 0).bind fun m4 =>
    (zck S a0 11).bind fun u5 =>
    (F_Mo_change n E S a0 (4 + x1) x2 m4).bind fun q6 =>
    some (q6.1, q6.2)
  else
    (zck S a0 11).bind fun u7 =>
    (F_Mo_tell n E S a0 (-1) q2.2).bind fun q8 =>
    some (q8.1, q8.2)
theorem K_Mo_terms (n : Nat) (E : zE) (S : zS) (a0 : Nat) (x1 : Int32) (x2 : Int32) (M : zH) (r : Int32) (M' : zH)  (h : F_Mo_terms n E S a0 x1 x2 M = some (r, M')) : zG E Y_Mo_terms (some (.int r), S, M') 0 [(0, .ref a0), (1, .int x1), (2, .int x2)] [] S M 0 0 := by
  unfold F_Mo_terms at h
  refine zi_aload_n 0 d_Mo_terms_0 rfl ?_
  refine zi_iconst 0 d_Mo_terms_1 rfl ?_
  obtain ⟨m1, em1, h⟩ := zbind h
  refine zo_putI 5 zkd_11 0 d_Mo_terms_2 em1 rfl rfl rfl tw_1231 rfl ?_
  refine zi_iload_n 1 d_Mo_terms_5 rfl ?_
  refine zi_iload_n 2 d_Mo_terms_6 rfl ?_
  obtain ⟨q2, eq2, h⟩ := zbind h
  refine zo_stat (k' := 0) (n' := 0) 10 [.int x1, .int x2] [] [.int (bI q2.1)] (C_Mo_isTerm n E S x1 x2 m1 q2.1 q2.2 eq2) d_Mo_terms_7 tw_1536 tw_1534 tw_1535 tw_13 dd_Mo_isTerm ⟨Nat.le_of_ble_eq_true rfl, Nat.le_of_ble_eq_true rfl, Nat.le_of_ble_eq_true rfl, Nat.le_of_ble_eq_true rfl⟩ (Nat.le_of_ble_eq_true rfl) rfl rfl rfl rfl ?_
  refine zo_ifneB d_Mo_terms_10 rfl 13 rfl (fun c3 => ?_) (fun c3 => ?_)
  · rw [if_pos c3] at h
    refine zi_aload_n 0 d_Mo_terms_19 rfl ?_
    refine zi_iconst 0 d_Mo_terms_20 rfl ?_
    obtain ⟨m4, em4, h⟩ := zbind h
    refine zo_putI 24 zkd_11 8 d_Mo_terms_21 em4 rfl rfl rfl tw_1239 rfl ?_
    refine zi_aload_n 0 d_Mo_terms_24 rfl ?_
    refine zi_iconst 4 d_Mo_terms_25 rfl ?_
    refine zi_iload_n 1 d_Mo_terms_26 rfl ?_
    refine zi_iadd d_Mo_terms_27 ?_
    refine zi_iload_n 2 d_Mo_terms_28 rfl ?_
    obtain ⟨u5, eu5, h⟩ := zbind h
    obtain ⟨q6, eq6, h⟩ := zbind h
    refine zo_virt (k' := 0) (n' := 0) 32 [.int (4 + x1), .int x2] [] [.int q6.1] zkd_11 (zck_s eu5) (C_Mo_change n E S a0 (4 + x1) x2 m4 q6.1 q6.2 eq6) d_Mo_terms_29 tw_1482 tw_1479 tw_1481 ts_45 tw_13 dd_Mo_change ⟨Nat.le_of_ble_eq_true rfl, Nat.le_of_ble_eq_true rfl, Nat.le_of_ble_eq_true rfl, Nat.le_of_ble_eq_true rfl⟩ (Nat.le_of_ble_eq_true rfl) rfl rfl rfl rfl ?_
    cases h
    exact zo_ret d_Mo_terms_32 (Nat.le_of_ble_eq_true rfl) (Nat.le_of_ble_eq_true rfl) rfl
  · rw [if_neg c3] at h
    refine zi_aload_n 0 d_Mo_terms_13 rfl ?_
    refine zi_iconst (-1) d_Mo_terms_14 rfl ?_
    obtain ⟨u7, eu7, h⟩ := zbind h
    obtain ⟨q8, eq8, h⟩ := zbind h
    refine zo_virt (k' := 0) (n' := 0) 18 [.int (-1)] [] [.int q8.1] zkd_11 (zck_s eu7) (C_Mo_tell n E S a0 (-1) q2.2 q8.1 q8.2 eq8) d_Mo_terms_15 tw_1410 tw_1407 tw_1409 ts_36 tw_13 dd_Mo_tell ⟨Nat.le_of_ble_eq_true rfl, Nat.le_of_ble_eq_true rfl, Nat.le_of_ble_eq_true rfl, Nat.le_of_ble_eq_true rfl⟩ (Nat.le_of_ble_eq_true rfl) rfl rfl rfl rfl ?_
    cases h
    exact zo_ret d_Mo_terms_18 (Nat.le_of_ble_eq_true rfl) (Nat.le_of_ble_eq_true rfl) rfl
theorem C_Mo_terms (n : Nat) (E : zE) (S : zS) (a0 : Nat) (x1 : Int32) (x2 : Int32) (M : zH) (r : Int32) (M' : zH) (h : F_Mo_terms n E S a0 x1 x2 M = some (r, M')) : zC E Y_Mo_terms [.ref a0, .int x1, .int x2] S M (some (.int r), S, M') :=
  zC.of (Or.inl (show plainName "NightColanderModel" = true by decide)) (Nat.le_of_ble_eq_true rfl) (trivial) (K_Mo_terms n E S a0 x1 x2 M r M' h)
theorem d_Mo_row_0 : decode (yB Y_Mo_row) 0 = .ok (.aload_n 0, 1) := by decide +kernel
theorem d_Mo_row_1 : decode (yB Y_Mo_row) 1 = .ok (.iconst 0, 1) := by decide +kernel
theorem d_Mo_row_2 : decode (yB Y_Mo_row) 2 = .ok (.putfield 156, 3) := by decide +kernel
theorem d_Mo_row_5 : decode (yB Y_Mo_row) 5 = .ok (.aload_n 0, 1) := by decide +kernel
theorem d_Mo_row_6 : decode (yB Y_Mo_row) 6 = .ok (.getfield 244, 3) := by decide +kernel
theorem d_Mo_row_9 : decode (yB Y_Mo_row) 9 = .ok (.istore_n 1, 1) := by decide +kernel
theorem d_Mo_row_10 : decode (yB Y_Mo_row) 10 = .ok (.aload_n 0, 1) := by decide +kernel
theorem d_Mo_row_11 : decode (yB Y_Mo_row) 11 = .ok (.iconst 0, 1) := by decide +kernel
theorem d_Mo_row_12 : decode (yB Y_Mo_row) 12 = .ok (.putfield 244, 3) := by decide +kernel
theorem d_Mo_row_15 : decode (yB Y_Mo_row) 15 = .ok (.iload_n 1, 1) := by decide +kernel
theorem d_Mo_row_16 : decode (yB Y_Mo_row) 16 = .ok (.ifCond .ne 10, 3) := by decide +kernel
theorem d_Mo_row_19 : decode (yB Y_Mo_row) 19 = .ok (.aload_n 0, 1) := by decide +kernel
theorem d_Mo_row_20 : decode (yB Y_Mo_row) 20 = .ok (.bipush (-6), 2) := by decide +kernel
theorem d_Mo_row_22 : decode (yB Y_Mo_row) 22 = .ok (.invokevirtual 165, 3) := by decide +kernel
theorem d_Mo_row_25 : decode (yB Y_Mo_row) 25 = .ok (.ireturn, 1) := by decide +kernel
theorem d_Mo_row_26 : decode (yB Y_Mo_row) 26 = .ok (.aload_n 0, 1) := by decide +kernel
theorem d_Mo_row_27 : decode (yB Y_Mo_row) 27 = .ok (.iconst 0, 1) := by decide +kernel
theorem d_Mo_row_28 : decode (yB Y_Mo_row) 28 = .ok (.putfield 247, 3) := by decide +kernel
theorem d_Mo_row_31 : decode (yB Y_Mo_row) 31 = .ok (.iconst 0, 1) := by decide +kernel
theorem d_Mo_row_32 : decode (yB Y_Mo_row) 32 = .ok (.istore_n 2, 1) := by decide +kernel
theorem d_Mo_row_33 : decode (yB Y_Mo_row) 33 = .ok (.iconst 0, 1) := by decide +kernel
theorem d_Mo_row_34 : decode (yB Y_Mo_row) 34 = .ok (.istore_n 3, 1) := by decide +kernel
theorem d_Mo_row_35 : decode (yB Y_Mo_row) 35 = .ok (.iload_n 3, 1) := by decide +kernel
theorem d_Mo_row_36 : decode (yB Y_Mo_row) 36 = .ok (.iload_n 1, 1) := by decide +kernel
theorem d_Mo_row_37 : decode (yB Y_Mo_row) 37 = .ok (.if_icmp .ge 140, 3) := by decide +kernel
theorem d_Mo_row_40 : decode (yB Y_Mo_row) 40 = .ok (.iload_n 3, 1) := by decide +kernel
theorem d_Mo_row_41 : decode (yB Y_Mo_row) 41 = .ok (.iconst 2, 1) := by decide +kernel
theorem d_Mo_row_42 : decode (yB Y_Mo_row) 42 = .ok (.iadd, 1) := by decide +kernel
theorem d_Mo_row_43 : decode (yB Y_Mo_row) 43 = .ok (.iload_n 1, 1) := by decide +kernel
theorem d_Mo_row_44 : decode (yB Y_Mo_row) 44 = .ok (.if_icmp .ge 117, 3) := by decide +kernel
theorem d_Mo_row_47 : decode (yB Y_Mo_row) 47 = .ok (.aload_n 0, 1) := by decide +kernel
theorem d_Mo_row_48 : decode (yB Y_Mo_row) 48 = .ok (.getfield 35, 3) := by decide +kernel
theorem d_Mo_row_51 : decode (yB Y_Mo_row) 51 = .ok (.iload_n 3, 1) := by decide +kernel
theorem d_Mo_row_52 : decode (yB Y_Mo_row) 52 = .ok (.iaload, 1) := by decide +kernel
theorem d_Mo_row_53 : decode (yB Y_Mo_row) 53 = .ok (.invokestatic 190, 3) := by decide +kernel
theorem d_Mo_row_56 : decode (yB Y_Mo_row) 56 = .ok (.ifCond .eq 105, 3) := by decide +kernel
theorem d_Mo_row_59 : decode (yB Y_Mo_row) 59 = .ok (.aload_n 0, 1) := by decide +kernel
theorem d_Mo_row_60 : decode (yB Y_Mo_row) 60 = .ok (.getfield 35, 3) := by decide +kernel
theorem d_Mo_row_63 : decode (yB Y_Mo_row) 63 = .ok (.iload_n 3, 1) := by decide +kernel
theorem d_Mo_row_64 : decode (yB Y_Mo_row) 64 = .ok (.iconst 1, 1) := by decide +kernel
theorem d_Mo_row_65 : decode (yB Y_Mo_row) 65 = .ok (.iadd, 1) := by decide +kernel
theorem d_Mo_row_66 : decode (yB Y_Mo_row) 66 = .ok (.iaload, 1) := by decide +kernel
theorem d_Mo_row_67 : decode (yB Y_Mo_row) 67 = .ok (.invokestatic 194, 3) := by decide +kernel
theorem d_Mo_row_70 : decode (yB Y_Mo_row) 70 = .ok (.ifCond .eq 91, 3) := by decide +kernel
theorem d_Mo_row_73 : decode (yB Y_Mo_row) 73 = .ok (.aload_n 0, 1) := by decide +kernel
theorem d_Mo_row_74 : decode (yB Y_Mo_row) 74 = .ok (.getfield 35, 3) := by decide +kernel
theorem d_Mo_row_77 : decode (yB Y_Mo_row) 77 = .ok (.iload_n 3, 1) := by decide +kernel
theorem d_Mo_row_78 : decode (yB Y_Mo_row) 78 = .ok (.iconst 2, 1) := by decide +kernel
theorem d_Mo_row_79 : decode (yB Y_Mo_row) 79 = .ok (.iadd, 1) := by decide +kernel
theorem d_Mo_row_80 : decode (yB Y_Mo_row) 80 = .ok (.iaload, 1) := by decide +kernel
theorem d_Mo_row_81 : decode (yB Y_Mo_row) 81 = .ok (.i2l, 1) := by decide +kernel
theorem d_Mo_row_82 : decode (yB Y_Mo_row) 82 = .ok (.lconst 0, 1) := by decide +kernel
theorem d_Mo_row_83 : decode (yB Y_Mo_row) 83 = .ok (.ldc2_w 237, 3) := by decide +kernel
theorem d_Mo_row_86 : decode (yB Y_Mo_row) 86 = .ok (.invokestatic 176, 3) := by decide +kernel
theorem d_Mo_row_89 : decode (yB Y_Mo_row) 89 = .ok (.ifCond .eq 72, 3) := by decide +kernel
theorem d_Mo_row_92 : decode (yB Y_Mo_row) 92 = .ok (.aload_n 0, 1) := by decide +kernel
theorem d_Mo_row_93 : decode (yB Y_Mo_row) 93 = .ok (.getfield 13, 3) := by decide +kernel
theorem d_Mo_row_96 : decode (yB Y_Mo_row) 96 = .ok (.bipush 12, 2) := by decide +kernel
theorem d_Mo_row_98 : decode (yB Y_Mo_row) 98 = .ok (.bipush 8, 2) := by decide +kernel
theorem d_Mo_row_100 : decode (yB Y_Mo_row) 100 = .ok (.aload_n 0, 1) := by decide +kernel
theorem d_Mo_row_101 : decode (yB Y_Mo_row) 101 = .ok (.getfield 35, 3) := by decide +kernel
theorem d_Mo_row_104 : decode (yB Y_Mo_row) 104 = .ok (.iload_n 3, 1) := by decide +kernel
theorem d_Mo_row_105 : decode (yB Y_Mo_row) 105 = .ok (.iaload, 1) := by decide +kernel
theorem d_Mo_row_106 : decode (yB Y_Mo_row) 106 = .ok (.imul, 1) := by decide +kernel
theorem d_Mo_row_107 : decode (yB Y_Mo_row) 107 = .ok (.iadd, 1) := by decide +kernel
theorem d_Mo_row_108 : decode (yB Y_Mo_row) 108 = .ok (.aload_n 0, 1) := by decide +kernel
theorem d_Mo_row_109 : decode (yB Y_Mo_row) 109 = .ok (.getfield 35, 3) := by decide +kernel
theorem d_Mo_row_112 : decode (yB Y_Mo_row) 112 = .ok (.iload_n 3, 1) := by decide +kernel
theorem d_Mo_row_113 : decode (yB Y_Mo_row) 113 = .ok (.iconst 1, 1) := by decide +kernel
theorem d_Mo_row_114 : decode (yB Y_Mo_row) 114 = .ok (.iadd, 1) := by decide +kernel
theorem d_Mo_row_115 : decode (yB Y_Mo_row) 115 = .ok (.iaload, 1) := by decide +kernel
theorem d_Mo_row_116 : decode (yB Y_Mo_row) 116 = .ok (.iadd, 1) := by decide +kernel
theorem d_Mo_row_117 : decode (yB Y_Mo_row) 117 = .ok (.aload_n 0, 1) := by decide +kernel
theorem d_Mo_row_118 : decode (yB Y_Mo_row) 118 = .ok (.getfield 35, 3) := by decide +kernel
theorem d_Mo_row_121 : decode (yB Y_Mo_row) 121 = .ok (.iload_n 3, 1) := by decide +kernel
theorem d_Mo_row_122 : decode (yB Y_Mo_row) 122 = .ok (.iconst 2, 1) := by decide +kernel
theorem d_Mo_row_123 : decode (yB Y_Mo_row) 123 = .ok (.iadd, 1) := by decide +kernel
theorem d_Mo_row_124 : decode (yB Y_Mo_row) 124 = .ok (.iaload, 1) := by decide +kernel
theorem d_Mo_row_125 : decode (yB Y_Mo_row) 125 = .ok (.iastore, 1) := by decide +kernel
theorem d_Mo_row_126 : decode (yB Y_Mo_row) 126 = .ok (.aload_n 0, 1) := by decide +kernel
theorem d_Mo_row_127 : decode (yB Y_Mo_row) 127 = .ok (.getfield 13, 3) := by decide +kernel
theorem d_Mo_row_130 : decode (yB Y_Mo_row) 130 = .ok (.bipush 44, 2) := by decide +kernel
theorem d_Mo_row_132 : decode (yB Y_Mo_row) 132 = .ok (.aload_n 0, 1) := by decide +kernel
theorem d_Mo_row_133 : decode (yB Y_Mo_row) 133 = .ok (.getfield 35, 3) := by decide +kernel
theorem d_Mo_row_136 : decode (yB Y_Mo_row) 136 = .ok (.iload_n 3, 1) := by decide +kernel
theorem d_Mo_row_137 : decode (yB Y_Mo_row) 137 = .ok (.iaload, 1) := by decide +kernel
theorem d_Mo_row_138 : decode (yB Y_Mo_row) 138 = .ok (.iadd, 1) := by decide +kernel
theorem d_Mo_row_139 : decode (yB Y_Mo_row) 139 = .ok (.dup2, 1) := by decide +kernel
theorem d_Mo_row_140 : decode (yB Y_Mo_row) 140 = .ok (.iaload, 1) := by decide +kernel
theorem d_Mo_row_141 : decode (yB Y_Mo_row) 141 = .ok (.iconst 1, 1) := by decide +kernel
theorem d_Mo_row_142 : decode (yB Y_Mo_row) 142 = .ok (.aload_n 0, 1) := by decide +kernel
theorem d_Mo_row_143 : decode (yB Y_Mo_row) 143 = .ok (.getfield 35, 3) := by decide +kernel
theorem d_Mo_row_146 : decode (yB Y_Mo_row) 146 = .ok (.iload_n 3, 1) := by decide +kernel
theorem d_Mo_row_147 : decode (yB Y_Mo_row) 147 = .ok (.iconst 1, 1) := by decide +kernel
theorem d_Mo_row_148 : decode (yB Y_Mo_row) 148 = .ok (.iadd, 1) := by decide +kernel
theorem d_Mo_row_149 : decode (yB Y_Mo_row) 149 = .ok (.iaload, 1) := by decide +kernel
theorem d_Mo_row_150 : decode (yB Y_Mo_row) 150 = .ok (.ishl, 1) := by decide +kernel
theorem d_Mo_row_151 : decode (yB Y_Mo_row) 151 = .ok (.iconst (-1), 1) := by decide +kernel
theorem d_Mo_row_152 : decode (yB Y_Mo_row) 152 = .ok (.ixor, 1) := by decide +kernel
theorem d_Mo_row_153 : decode (yB Y_Mo_row) 153 = .ok (.iand, 1) := by decide +kernel
theorem d_Mo_row_154 : decode (yB Y_Mo_row) 154 = .ok (.iastore, 1) := by decide +kernel
theorem d_Mo_row_155 : decode (yB Y_Mo_row) 155 = .ok (.iinc 2 1, 3) := by decide +kernel
theorem d_Mo_row_158 : decode (yB Y_Mo_row) 158 = .ok (.goto 13, 3) := by decide +kernel
theorem d_Mo_row_161 : decode (yB Y_Mo_row) 161 = .ok (.aload_n 0, 1) := by decide +kernel
theorem d_Mo_row_162 : decode (yB Y_Mo_row) 162 = .ok (.dup, 1) := by decide +kernel
theorem d_Mo_row_163 : decode (yB Y_Mo_row) 163 = .ok (.getfield 247, 3) := by decide +kernel
theorem d_Mo_row_166 : decode (yB Y_Mo_row) 166 = .ok (.iconst 1, 1) := by decide +kernel
theorem d_Mo_row_167 : decode (yB Y_Mo_row) 167 = .ok (.iadd, 1) := by decide +kernel
theorem d_Mo_row_168 : decode (yB Y_Mo_row) 168 = .ok (.putfield 247, 3) := by decide +kernel
theorem d_Mo_row_171 : decode (yB Y_Mo_row) 171 = .ok (.iinc 3 3, 3) := by decide +kernel
theorem d_Mo_row_174 : decode (yB Y_Mo_row) 174 = .ok (.goto (-139), 3) := by decide +kernel
theorem d_Mo_row_177 : decode (yB Y_Mo_row) 177 = .ok (.aload_n 0, 1) := by decide +kernel
theorem d_Mo_row_178 : decode (yB Y_Mo_row) 178 = .ok (.iload_n 2, 1) := by decide +kernel
theorem d_Mo_row_179 : decode (yB Y_Mo_row) 179 = .ok (.invokevirtual 180, 3) := by decide +kernel
theorem d_Mo_row_182 : decode (yB Y_Mo_row) 182 = .ok (.ireturn, 1) := by decide +kernel
def F_Mo_row_b171 (n : Nat) (E : zE) (S : zS) (r35 : Nat × Int32 × Int32 × Int32 × zH → Option (Int32 × zH)) (a0 : Nat) (x1 : Int32) (x2 : Int32) (x3 : Int32) (M : zH) : Option (Int32 × zH) :=
  r35 (a0, x1, x2, x3 + 3, M)
def F_Mo_row_b161 (n : Nat) (E : zE) (S : zS) (r35 : Nat × Int32 × Int32 × Int32 × zH → Option (Int32 × zH)) (a0 : Nat) (x1 : Int32) (x2 : Int32) (x3 : Int32) (M : zH) : Option (Int32 × zH) :=
  (zgI S M a0 11 11).bind fun v1 =>
  (zpI S M a0 11 11 (v1 + 1)).bind fun m2 =>
  F_Mo_row_b171 n E S r35 a0 x1 x2 x3 m2
def F_Mo_row_L35 (n : Nat) (E : zE) (S : zS) (r35 : Nat × Int32 × Int32 × Int32 × zH → Option (Int32 × zH)) (a0 : Nat) (x1 : Int32) (x2 : Int32) (x3 : Int32) (M : zH) : Option (Int32 × zH) :=
  if x1 ≤ x3 then
    (zck S a0 11).bind fun u4 =>
    (F_Mo_lasting n E S a0 x2 M).bind fun q5 =>
    some (q5.1, q5.2)
  else
    if x1 ≤ (x3 + 2) then
      F_Mo_row_b161 n E S r35 a0 x1 x2 x3 M
    else
      (zgR S a0 11 12).bind fun b7 =>
      (zldI S M b7 x3).bind fun v8 =>
      (F_Mo_isRing n E S v8 M).bind fun q9 =>
      if q9.1 = true then
        (zldI S q9.2 b7 (x3 + 1)).bind fun v11 =>
        (F_Mo_isField n E S v11 q9.2).bind fun q12 =>
        if q12.1 = true then
          (zldI S q12.2 b7 (x3 + 2)).bind fun v14 =>
          (F_Mo_in n E S v14.toInt64 0 9 q12.2).bind fun q15 =>
          if q15.1 = true then
            (zgR S a0 11 3).bind fun b17 =>
            (zldI S q15.2 b7 x3).bind fun v18 =>
            (zldI S q15.2 b7 (x3 + 1)).bind fun v19 =>
            (zldI S q15.2 b7 (x3 + 2)).bind fun v20 =>
            (zstI S q15.2 b17 ((12 + (8 * v18)) + v19) v20).bind fun m21 =>
            (zldI S m21 b7 x3).bind fun v22 =>
            (zldI S m21 b17 (44 + v22)).bind fun v23 =>
            (zldI S m21 b7 (x3 + 1)).bind fun v24 =>
            (zstI S m21 b17 (44 + v22) (v23 &&& (((1 : Int32) <<< (v24 &&& (31 : Int32))) ^^^ (-1 : Int32)))).bind fun m25 =>
            F_Mo_row_b171 n E S r35 a0 x1 (x2 + 1) x3 m25
          else
            F_Mo_row_b161 n E S r35 a0 x1 x2 x3 q15.2
        else
          F_Mo_row_b161 n E S r35 a0 x1 x2 x3 q12.2
      else
        F_Mo_row_b161 n E S r35 a0 x1 x2 x3 q9.2
def F_Mo_row_b35 (n : Nat) (E : zE) (S : zS) : Nat × Int32 × Int32 × Int32 × zH → Option (Int32 × zH) := zfix (fun r35 s => F_Mo_row_L35 n E S r35 s.1 s.2.1 s.2.2.1 s.2.2.2.1 s.2.2.2.2) n
def F_Mo_row (n : Nat) (E : zE) (S : zS) (a0 : Nat) (M : zH) : Option (Int32 × zH) :=
  (zpI S M a0 11 0 0).bind fun m26 =>
  (zgI S m26 a0 11 13).bind fun v27 =>
  (zpI S m26 a0 11 13 0).bind fun m28 =>
  if v27 = 0 then
    (F_Mo_tell n E S a0 (-6) m28).bind fun q30 =>
    some (q30.1, q30.2)
  else
    (zpI S m28 a0 11 11 0).bind fun m31 =>
    F_Mo_row_b35 n E S (a0, v27, 0, 0, m31)
theorem K_Mo_row_b171 (n : Nat) (E : zE) (S : zS) (r35 : Nat × Int32 × Int32 × Int32 × zH → Option (Int32 × zH)) (a0 : Nat) (x1 : Int32) (x2 : Int32) (x3 : Int32) (M : zH) (r : Int32) (M' : zH) (hr35 : ∀ (a0 : Nat) (x1 : Int32) (x2 : Int32) (x3 : Int32) (M : zH), r35 (a0, x1, x2, x3, M) = some (r, M') → zG E Y_Mo_row (some (.int r), S, M') 35 [(0, .ref a0), (1, .int x1), (2, .int x2), (3, .int x3)] [] S M 0 0) (h : F_Mo_row_b171 n E S r35 a0 x1 x2 x3 M = some (r, M')) : zG E Y_Mo_row (some (.int r), S, M') 171 [(0, .ref a0), (1, .int x1), (2, .int x2), (3, .int x3)] [] S M 0 0 := by
  unfold F_Mo_row_b171 at h
  refine zi_iinc 3 (x3 + 3) [(3, .int (x3 + 3)), (0, .ref a0), (1, .int x1), (2, .int x2)] d_Mo_row_171 rfl rfl (by decide) rfl ?_
  refine zi_goto (tgt := 35) d_Mo_row_174 rfl ?_
  refine zi_lo [(0, .ref a0), (1, .int x1), (2, .int x2), (3, .int (x3 + 3))] [1, 2, 3, 0] rfl ?_
  exact hr35 a0 x1 x2 (x3 + 3) M h
theorem K_Mo_row_b161 (n : Nat) (E : zE) (S : zS) (r35 : Nat × Int32 × Int32 × Int32 × zH → Option (Int32 × zH)) (a0 : Nat) (x1 : Int32) (x2 : Int32) (x3 : Int32) (M : zH) (r : Int32) (M' : zH) (hr35 : ∀ (a0 : Nat) (x1 : Int32) (x2 : Int32) (x3 : Int32) (M : zH), r35 (a0, x1, x2, x3, M) = some (r, M') → zG E Y_Mo_row (some (.int r), S, M') 35 [(0, .ref a0), (1, .int x1), (2, .int x2), (3, .int x3)] [] S M 0 0) (h : F_Mo_row_b161 n E S r35 a0 x1 x2 x3 M = some (r, M')) : zG E Y_Mo_row (some (.int r), S, M') 161 [(0, .ref a0), (1, .int x1), (2, .int x2), (3, .int x3)] [] S M 0 0 := by
  unfold F_Mo_row_b161 at h
  refine zi_aload_n 0 d_Mo_row_161 rfl ?_
  refine zi_dup d_Mo_row_162 rfl ?_
  obtain ⟨v1, ev1, h⟩ := zbind h
  refine zo_getI 166 zkd_11 11 d_Mo_row_163 ev1 rfl tw_1242 rfl ?_
  refine zi_iconst 1 d_Mo_row_166 rfl ?_
  refine zi_iadd d_Mo_row_167 ?_
  obtain ⟨m2, em2, h⟩ := zbind h
  refine zo_putI 171 zkd_11 11 d_Mo_row_168 em2 rfl rfl rfl tw_1242 rfl ?_
  refine zi_lo [(0, .ref a0), (1, .int x1), (2, .int x2), (3, .int x3)] [0, 1, 2, 3] rfl ?_
  exact K_Mo_row_b171 n E S r35 a0 x1 x2 x3 m2 r M' hr35 h
theorem K_Mo_row_L35 (n : Nat) (E : zE) (S : zS) (r35 : Nat × Int32 × Int32 × Int32 × zH → Option (Int32 × zH)) (a0 : Nat) (x1 : Int32) (x2 : Int32) (x3 : Int32) (M : zH) (r : Int32) (M' : zH) (hr35 : ∀ (a0 : Nat) (x1 : Int32) (x2 : Int32) (x3 : Int32) (M : zH), r35 (a0, x1, x2, x3, M) = some (r, M') → zG E Y_Mo_row (some (.int r), S, M') 35 [(0, .ref a0), (1, .int x1), (2, .int x2), (3, .int x3)] [] S M 0 0) (h : F_Mo_row_L35 n E S r35 a0 x1 x2 x3 M = some (r, M')) : zG E Y_Mo_row (some (.int r), S, M') 35 [(0, .ref a0), (1, .int x1), (2, .int x2), (3, .int x3)] [] S M 0 0 := by
  unfold F_Mo_row_L35 at h
  refine zi_iload_n 3 d_Mo_row_35 rfl ?_
  refine zi_iload_n 1 d_Mo_row_36 rfl ?_
  refine zi_icmp_ge (tgt := 177) d_Mo_row_37 rfl (fun c3 => ?_) (fun c3 => ?_)
  · rw [if_pos c3] at h
    refine zi_aload_n 0 d_Mo_row_177 rfl ?_
    refine zi_iload_n 2 d_Mo_row_178 rfl ?_
    obtain ⟨u4, eu4, h⟩ := zbind h
    obtain ⟨q5, eq5, h⟩ := zbind h
    refine zo_virt (k' := 0) (n' := 0) 182 [.int x2] [] [.int q5.1] zkd_11 (zck_s eu4) (C_Mo_lasting n E S a0 x2 M q5.1 q5.2 eq5) d_Mo_row_179 tw_1429 tw_1426 tw_1428 ts_38 tw_13 dd_Mo_lasting ⟨Nat.le_of_ble_eq_true rfl, Nat.le_of_ble_eq_true rfl, Nat.le_of_ble_eq_true rfl, Nat.le_of_ble_eq_true rfl⟩ (Nat.le_of_ble_eq_true rfl) rfl rfl rfl rfl ?_
    cases h
    exact zo_ret d_Mo_row_182 (Nat.le_of_ble_eq_true rfl) (Nat.le_of_ble_eq_true rfl) rfl
  · rw [if_neg c3] at h
    refine zi_iload_n 3 d_Mo_row_40 rfl ?_
    refine zi_iconst 2 d_Mo_row_41 rfl ?_
    refine zi_iadd d_Mo_row_42 ?_
    refine zi_iload_n 1 d_Mo_row_43 rfl ?_
    refine zi_icmp_ge (tgt := 161) d_Mo_row_44 rfl (fun c6 => ?_) (fun c6 => ?_)
    · rw [if_pos c6] at h
      refine zi_lo [(0, .ref a0), (1, .int x1), (2, .int x2), (3, .int x3)] [0, 1, 2, 3] rfl ?_
      exact K_Mo_row_b161 n E S r35 a0 x1 x2 x3 M r M' hr35 h
    · rw [if_neg c6] at h
      refine zi_aload_n 0 d_Mo_row_47 rfl ?_
      obtain ⟨b7, eb7, h⟩ := zbind h
      refine zo_getR 51 zkd_11 12 d_Mo_row_48 eb7 rfl tw_1243 rfl ?_
      refine zi_iload_n 3 d_Mo_row_51 rfl ?_
      obtain ⟨v8, ev8, h⟩ := zbind h
      refine zo_iald 53 d_Mo_row_52 ev8 rfl ?_
      obtain ⟨q9, eq9, h⟩ := zbind h
      refine zo_stat (k' := 0) (n' := 0) 56 [.int v8] [] [.int (bI q9.1)] (C_Mo_isRing n E S v8 M q9.1 q9.2 eq9) d_Mo_row_53 tw_1436 tw_1434 tw_1435 tw_13 dd_Mo_isRing ⟨Nat.le_of_ble_eq_true rfl, Nat.le_of_ble_eq_true rfl, Nat.le_of_ble_eq_true rfl, Nat.le_of_ble_eq_true rfl⟩ (Nat.le_of_ble_eq_true rfl) rfl rfl rfl rfl ?_
      refine zo_ifeqB d_Mo_row_56 rfl 59 rfl (fun c10 => ?_) (fun c10 => ?_)
      · rw [if_neg c10] at h
        refine zi_lo [(0, .ref a0), (1, .int x1), (2, .int x2), (3, .int x3)] [0, 1, 2, 3] rfl ?_
        exact K_Mo_row_b161 n E S r35 a0 x1 x2 x3 q9.2 r M' hr35 h
      · rw [if_pos c10] at h
        refine zi_aload_n 0 d_Mo_row_59 rfl ?_
        refine zo_getR 63 zkd_11 12 d_Mo_row_60 eb7 rfl tw_1243 rfl ?_
        refine zi_iload_n 3 d_Mo_row_63 rfl ?_
        refine zi_iconst 1 d_Mo_row_64 rfl ?_
        refine zi_iadd d_Mo_row_65 ?_
        obtain ⟨v11, ev11, h⟩ := zbind h
        refine zo_iald 67 d_Mo_row_66 ev11 rfl ?_
        obtain ⟨q12, eq12, h⟩ := zbind h
        refine zo_stat (k' := 0) (n' := 0) 70 [.int v11] [] [.int (bI q12.1)] (C_Mo_isField n E S v11 q9.2 q12.1 q12.2 eq12) d_Mo_row_67 tw_1440 tw_1438 tw_1439 tw_13 dd_Mo_isField ⟨Nat.le_of_ble_eq_true rfl, Nat.le_of_ble_eq_true rfl, Nat.le_of_ble_eq_true rfl, Nat.le_of_ble_eq_true rfl⟩ (Nat.le_of_ble_eq_true rfl) rfl rfl rfl rfl ?_
        refine zo_ifeqB d_Mo_row_70 rfl 73 rfl (fun c13 => ?_) (fun c13 => ?_)
        · rw [if_neg c13] at h
          refine zi_lo [(0, .ref a0), (1, .int x1), (2, .int x2), (3, .int x3)] [0, 1, 2, 3] rfl ?_
          exact K_Mo_row_b161 n E S r35 a0 x1 x2 x3 q12.2 r M' hr35 h
        · rw [if_pos c13] at h
          refine zi_aload_n 0 d_Mo_row_73 rfl ?_
          refine zo_getR 77 zkd_11 12 d_Mo_row_74 eb7 rfl tw_1243 rfl ?_
          refine zi_iload_n 3 d_Mo_row_77 rfl ?_
          refine zi_iconst 2 d_Mo_row_78 rfl ?_
          refine zi_iadd d_Mo_row_79 ?_
          obtain ⟨v14, ev14, h⟩ := zbind h
          refine zo_iald 81 d_Mo_row_80 ev14 rfl ?_
          refine zi_i2l d_Mo_row_81 ?_
          refine zi_lconst 0 d_Mo_row_82 rfl ?_
          refine zi_ldc2 d_Mo_row_83 tw_1538 ?_
          obtain ⟨q15, eq15, h⟩ := zbind h
          refine zo_stat (k' := 0) (n' := 0) 89 [.long v14.toInt64, .long 0, .long 9] [] [.int (bI q15.1)] (C_Mo_in n E S v14.toInt64 0 9 q12.2 q15.1 q15.2 eq15) d_Mo_row_86 tw_1421 tw_1419 tw_1420 tw_13 dd_Mo_in ⟨Nat.le_of_ble_eq_true rfl, Nat.le_of_ble_eq_true rfl, Nat.le_of_ble_eq_true rfl, Nat.le_of_ble_eq_true rfl⟩ (Nat.le_of_ble_eq_true rfl) rfl rfl rfl rfl ?_
          refine zo_ifeqB d_Mo_row_89 rfl 92 rfl (fun c16 => ?_) (fun c16 => ?_)
          · rw [if_neg c16] at h
            refine zi_lo [(0, .ref a0), (1, .int x1), (2, .int x2), (3, .int x3)] [0, 1, 2, 3] rfl ?_
            exact K_Mo_row_b161 n E S r35 a0 x1 x2 x3 q15.2 r M' hr35 h
          · rw [if_pos c16] at h
            refine zi_aload_n 0 d_Mo_row_92 rfl ?_
            obtain ⟨b17, eb17, h⟩ := zbind h
            refine zo_getR 96 zkd_11 3 d_Mo_row_93 eb17 rfl tw_1234 rfl ?_
            refine zi_bipush 12 d_Mo_row_96 rfl ?_
            refine zi_bipush 8 d_Mo_row_98 rfl ?_
            refine zi_aload_n 0 d_Mo_row_100 rfl ?_
            refine zo_getR 104 zkd_11 12 d_Mo_row_101 eb7 rfl tw_1243 rfl ?_
            refine zi_iload_n 3 d_Mo_row_104 rfl ?_
            obtain ⟨v18, ev18, h⟩ := zbind h
            refine zo_iald 106 d_Mo_row_105 ev18 rfl ?_
            refine zi_imul d_Mo_row_106 ?_
            refine zi_iadd d_Mo_row_107 ?_
            refine zi_aload_n 0 d_Mo_row_108 rfl ?_
            refine zo_getR 112 zkd_11 12 d_Mo_row_109 eb7 rfl tw_1243 rfl ?_
            refine zi_iload_n 3 d_Mo_row_112 rfl ?_
            refine zi_iconst 1 d_Mo_row_113 rfl ?_
            refine zi_iadd d_Mo_row_114 ?_
            obtain ⟨v19, ev19, h⟩ := zbind h
            refine zo_iald 116 d_Mo_row_115 ev19 rfl ?_
            refine zi_iadd d_Mo_row_116 ?_
            refine zi_aload_n 0 d_Mo_row_117 rfl ?_
            refine zo_getR 121 zkd_11 12 d_Mo_row_118 eb7 rfl tw_1243 rfl ?_
            refine zi_iload_n 3 d_Mo_row_121 rfl ?_
            refine zi_iconst 2 d_Mo_row_122 rfl ?_
            refine zi_iadd d_Mo_row_123 ?_
            obtain ⟨v20, ev20, h⟩ := zbind h
            refine zo_iald 125 d_Mo_row_124 ev20 rfl ?_
            obtain ⟨m21, em21, h⟩ := zbind h
            refine zo_iast 126 d_Mo_row_125 em21 rfl ?_
            refine zi_aload_n 0 d_Mo_row_126 rfl ?_
            refine zo_getR 130 zkd_11 3 d_Mo_row_127 eb17 rfl tw_1234 rfl ?_
            refine zi_bipush 44 d_Mo_row_130 rfl ?_
            refine zi_aload_n 0 d_Mo_row_132 rfl ?_
            refine zo_getR 136 zkd_11 12 d_Mo_row_133 eb7 rfl tw_1243 rfl ?_
            refine zi_iload_n 3 d_Mo_row_136 rfl ?_
            obtain ⟨v22, ev22, h⟩ := zbind h
            refine zo_iald 138 d_Mo_row_137 ev22 rfl ?_
            refine zi_iadd d_Mo_row_138 ?_
            refine zi_dup2 d_Mo_row_139 rfl rfl ?_
            obtain ⟨v23, ev23, h⟩ := zbind h
            refine zo_iald 141 d_Mo_row_140 ev23 rfl ?_
            refine zi_iconst 1 d_Mo_row_141 rfl ?_
            refine zi_aload_n 0 d_Mo_row_142 rfl ?_
            refine zo_getR 146 zkd_11 12 d_Mo_row_143 eb7 rfl tw_1243 rfl ?_
            refine zi_iload_n 3 d_Mo_row_146 rfl ?_
            refine zi_iconst 1 d_Mo_row_147 rfl ?_
            refine zi_iadd d_Mo_row_148 ?_
            obtain ⟨v24, ev24, h⟩ := zbind h
            refine zo_iald 150 d_Mo_row_149 ev24 rfl ?_
            refine zi_ishl d_Mo_row_150 ?_
            refine zi_iconst (-1) d_Mo_row_151 rfl ?_
            refine zi_ixor d_Mo_row_152 ?_
            refine zi_iand d_Mo_row_153 ?_
            obtain ⟨m25, em25, h⟩ := zbind h
            refine zo_iast 155 d_Mo_row_154 em25 rfl ?_
            refine zi_iinc 2 (x2 + 1) [(2, .int (x2 + 1)), (0, .ref a0), (1, .int x1), (3, .int x3)] d_Mo_row_155 rfl rfl (by decide) rfl ?_
            refine zi_goto (tgt := 171) d_Mo_row_158 rfl ?_
            refine zi_lo [(0, .ref a0), (1, .int x1), (2, .int (x2 + 1)), (3, .int x3)] [1, 2, 0, 3] rfl ?_
            exact K_Mo_row_b171 n E S r35 a0 x1 (x2 + 1) x3 m25 r M' hr35 h
theorem K_Mo_row_b35 (n : Nat) (E : zE) (S : zS) (a0 : Nat) (x1 : Int32) (x2 : Int32) (x3 : Int32) (M : zH) (r : Int32) (M' : zH)  (h : F_Mo_row_b35 n E S (a0, x1, x2, x3, M) = some (r, M')) : zG E Y_Mo_row (some (.int r), S, M') 35 [(0, .ref a0), (1, .int x1), (2, .int x2), (3, .int x3)] [] S M 0 0 := by
  have key : ∀ (k : Nat) (a0 : Nat) (x1 : Int32) (x2 : Int32) (x3 : Int32) (M : zH), zfix (fun r35 s => F_Mo_row_L35 n E S r35 s.1 s.2.1 s.2.2.1 s.2.2.2.1 s.2.2.2.2) k (a0, x1, x2, x3, M) = some (r, M') → zG E Y_Mo_row (some (.int r), S, M') 35 [(0, .ref a0), (1, .int x1), (2, .int x2), (3, .int x3)] [] S M 0 0 := by
    intro k
    induction k with
    | zero => intro a0 x1 x2 x3 M h; cases h
    | succ k ih => intro a0 x1 x2 x3 M h; exact K_Mo_row_L35 n E S _ a0 x1 x2 x3 M r M'  (fun a0 x1 x2 x3 M h => ih a0 x1 x2 x3 M h) h
  exact key n a0 x1 x2 x3 M h
theorem K_Mo_row (n : Nat) (E : zE) (S : zS) (a0 : Nat) (M : zH) (r : Int32) (M' : zH)  (h : F_Mo_row n E S a0 M = some (r, M')) : zG E Y_Mo_row (some (.int r), S, M') 0 [(0, .ref a0)] [] S M 0 0 := by
  unfold F_Mo_row at h
  refine zi_aload_n 0 d_Mo_row_0 rfl ?_
  refine zi_iconst 0 d_Mo_row_1 rfl ?_
  obtain ⟨m26, em26, h⟩ := zbind h
  refine zo_putI 5 zkd_11 0 d_Mo_row_2 em26 rfl rfl rfl tw_1231 rfl ?_
  refine zi_aload_n 0 d_Mo_row_5 rfl ?_
  obtain ⟨v27, ev27, h⟩ := zbind h
  refine zo_getI 9 zkd_11 13 d_Mo_row_6 ev27 rfl tw_1244 rfl ?_
  refine zi_istore_n [(1, .int v27), (0, .ref a0)] d_Mo_row_9 (by decide) rfl ?_
  refine zi_aload_n 1 d_Mo_row_10 rfl ?_
  refine zi_iconst 0 d_Mo_row_11 rfl ?_
  obtain ⟨m28, em28, h⟩ := zbind h
  refine zo_putI 15 zkd_11 13 d_Mo_row_12 em28 rfl rfl rfl tw_1244 rfl ?_
  refine zi_iload_n 0 d_Mo_row_15 rfl ?_
  refine zi_if_ne (tgt := 26) d_Mo_row_16 rfl (fun c29 => ?_) (fun c29 => ?_)
  · rw [if_neg c29] at h
    refine zi_aload_n 1 d_Mo_row_26 rfl ?_
    refine zi_iconst 0 d_Mo_row_27 rfl ?_
    obtain ⟨m31, em31, h⟩ := zbind h
    refine zo_putI 31 zkd_11 11 d_Mo_row_28 em31 rfl rfl rfl tw_1242 rfl ?_
    refine zi_iconst 0 d_Mo_row_31 rfl ?_
    refine zi_istore_n [(2, .int 0), (1, .int v27), (0, .ref a0)] d_Mo_row_32 (by decide) rfl ?_
    refine zi_iconst 0 d_Mo_row_33 rfl ?_
    refine zi_istore_n [(3, .int 0), (2, .int 0), (1, .int v27), (0, .ref a0)] d_Mo_row_34 (by decide) rfl ?_
    refine zi_lo [(0, .ref a0), (1, .int v27), (2, .int 0), (3, .int 0)] [3, 2, 1, 0] rfl ?_
    exact K_Mo_row_b35 n E S a0 v27 0 0 m31 r M'  h
  · rw [if_pos c29] at h
    refine zi_aload_n 1 d_Mo_row_19 rfl ?_
    refine zi_bipush (-6) d_Mo_row_20 rfl ?_
    obtain ⟨q30, eq30, h⟩ := zbind h
    refine zo_virt (k' := 0) (n' := 0) 25 [.int (-6)] [] [.int q30.1] zkd_11 (zgI_s ev27).1 (C_Mo_tell n E S a0 (-6) m28 q30.1 q30.2 eq30) d_Mo_row_22 tw_1410 tw_1407 tw_1409 ts_36 tw_13 dd_Mo_tell ⟨Nat.le_of_ble_eq_true rfl, Nat.le_of_ble_eq_true rfl, Nat.le_of_ble_eq_true rfl, Nat.le_of_ble_eq_true rfl⟩ (Nat.le_of_ble_eq_true rfl) rfl rfl rfl rfl ?_
    cases h
    exact zo_ret d_Mo_row_25 (Nat.le_of_ble_eq_true rfl) (Nat.le_of_ble_eq_true rfl) rfl
theorem C_Mo_row (n : Nat) (E : zE) (S : zS) (a0 : Nat) (M : zH) (r : Int32) (M' : zH) (h : F_Mo_row n E S a0 M = some (r, M')) : zC E Y_Mo_row [.ref a0] S M (some (.int r), S, M') :=
  zC.of (Or.inl (show plainName "NightColanderModel" = true by decide)) (Nat.le_of_ble_eq_true rfl) (trivial) (K_Mo_row n E S a0 M r M' h)
theorem d_Mo_peas_0 : decode (yB Y_Mo_peas) 0 = .ok (.aload_n 0, 1) := by decide +kernel
theorem d_Mo_peas_1 : decode (yB Y_Mo_peas) 1 = .ok (.iconst 0, 1) := by decide +kernel
theorem d_Mo_peas_2 : decode (yB Y_Mo_peas) 2 = .ok (.putfield 156, 3) := by decide +kernel
theorem d_Mo_peas_5 : decode (yB Y_Mo_peas) 5 = .ok (.aload_n 0, 1) := by decide +kernel
theorem d_Mo_peas_6 : decode (yB Y_Mo_peas) 6 = .ok (.getfield 247, 3) := by decide +kernel
theorem d_Mo_peas_9 : decode (yB Y_Mo_peas) 9 = .ok (.ireturn, 1) := by decide +kernel
def F_Mo_peas (n : Nat) (E : zE) (S : zS) (a0 : Nat) (M : zH) : Option (Int32 × zH) :=
  (zpI S M a0 11 0 0).bind fun m1 =>
  (zgI S m1 a0 11 11).bind fun v2 =>
  some (v2, m1)
theorem K_Mo_peas (n : Nat) (E : zE) (S : zS) (a0 : Nat) (M : zH) (r : Int32) (M' : zH)  (h : F_Mo_peas n E S a0 M = some (r, M')) : zG E Y_Mo_peas (some (.int r), S, M') 0 [(0, .ref a0)] [] S M 0 0 := by
  unfold F_Mo_peas at h
  refine zi_aload_n 0 d_Mo_peas_0 rfl ?_
  refine zi_iconst 0 d_Mo_peas_1 rfl ?_
  obtain ⟨m1, em1, h⟩ := zbind h
  refine zo_putI 5 zkd_11 0 d_Mo_peas_2 em1 rfl rfl rfl tw_1231 rfl ?_
  refine zi_aload_n 0 d_Mo_peas_5 rfl ?_
  obtain ⟨v2, ev2, h⟩ := zbind h
  refine zo_getI 9 zkd_11 11 d_Mo_peas_6 ev2 rfl tw_1242 rfl ?_
  cases h
  exact zo_ret d_Mo_peas_9 (Nat.le_of_ble_eq_true rfl) (Nat.le_of_ble_eq_true rfl) rfl
theorem C_Mo_peas (n : Nat) (E : zE) (S : zS) (a0 : Nat) (M : zH) (r : Int32) (M' : zH) (h : F_Mo_peas n E S a0 M = some (r, M')) : zC E Y_Mo_peas [.ref a0] S M (some (.int r), S, M') :=
  zC.of (Or.inl (show plainName "NightColanderModel" = true by decide)) (Nat.le_of_ble_eq_true rfl) (trivial) (K_Mo_peas n E S a0 M r M' h)
theorem d_Mo_four_0 : decode (yB Y_Mo_four) 0 = .ok (.bipush 24, 2) := by decide +kernel
theorem d_Mo_four_2 : decode (yB Y_Mo_four) 2 = .ok (.istore_n 2, 1) := by decide +kernel
theorem d_Mo_four_3 : decode (yB Y_Mo_four) 3 = .ok (.iload_n 2, 1) := by decide +kernel
theorem d_Mo_four_4 : decode (yB Y_Mo_four) 4 = .ok (.ifCond .lt 35, 3) := by decide +kernel
theorem d_Mo_four_7 : decode (yB Y_Mo_four) 7 = .ok (.aload_n 0, 1) := by decide +kernel
theorem d_Mo_four_8 : decode (yB Y_Mo_four) 8 = .ok (.getfield 35, 3) := by decide +kernel
theorem d_Mo_four_11 : decode (yB Y_Mo_four) 11 = .ok (.aload_n 0, 1) := by decide +kernel
theorem d_Mo_four_12 : decode (yB Y_Mo_four) 12 = .ok (.getfield 244, 3) := by decide +kernel
theorem d_Mo_four_15 : decode (yB Y_Mo_four) 15 = .ok (.iload_n 1, 1) := by decide +kernel
theorem d_Mo_four_16 : decode (yB Y_Mo_four) 16 = .ok (.iload_n 2, 1) := by decide +kernel
theorem d_Mo_four_17 : decode (yB Y_Mo_four) 17 = .ok (.ishr, 1) := by decide +kernel
theorem d_Mo_four_18 : decode (yB Y_Mo_four) 18 = .ok (.sipush 255, 3) := by decide +kernel
theorem d_Mo_four_21 : decode (yB Y_Mo_four) 21 = .ok (.iand, 1) := by decide +kernel
theorem d_Mo_four_22 : decode (yB Y_Mo_four) 22 = .ok (.iastore, 1) := by decide +kernel
theorem d_Mo_four_23 : decode (yB Y_Mo_four) 23 = .ok (.aload_n 0, 1) := by decide +kernel
theorem d_Mo_four_24 : decode (yB Y_Mo_four) 24 = .ok (.dup, 1) := by decide +kernel
theorem d_Mo_four_25 : decode (yB Y_Mo_four) 25 = .ok (.getfield 244, 3) := by decide +kernel
theorem d_Mo_four_28 : decode (yB Y_Mo_four) 28 = .ok (.iconst 1, 1) := by decide +kernel
theorem d_Mo_four_29 : decode (yB Y_Mo_four) 29 = .ok (.iadd, 1) := by decide +kernel
theorem d_Mo_four_30 : decode (yB Y_Mo_four) 30 = .ok (.putfield 244, 3) := by decide +kernel
theorem d_Mo_four_33 : decode (yB Y_Mo_four) 33 = .ok (.iinc 2 (-8), 3) := by decide +kernel
theorem d_Mo_four_36 : decode (yB Y_Mo_four) 36 = .ok (.goto (-33), 3) := by decide +kernel
theorem d_Mo_four_39 : decode (yB Y_Mo_four) 39 = .ok (.return_, 1) := by decide +kernel
def F_Mo_four_L3 (n : Nat) (E : zE) (S : zS) (r3 : Nat × Int32 × Int32 × zH → Option (zH)) (a0 : Nat) (x1 : Int32) (x2 : Int32) (M : zH) : Option (zH) :=
  if x2 < 0 then
    some (M)
  else
    (zgR S a0 11 12).bind fun b2 =>
    (zgI S M a0 11 13).bind fun v3 =>
    (zstI S M b2 v3 ((x1 >>> (x2 &&& (31 : Int32))) &&& (255 : Int32))).bind fun m4 =>
    (zgI S m4 a0 11 13).bind fun v5 =>
    (zpI S m4 a0 11 13 (v5 + 1)).bind fun m6 =>
    r3 (a0, x1, x2 + (-8), m6)
def F_Mo_four_b3 (n : Nat) (E : zE) (S : zS) : Nat × Int32 × Int32 × zH → Option (zH) := zfix (fun r3 s => F_Mo_four_L3 n E S r3 s.1 s.2.1 s.2.2.1 s.2.2.2) n
def F_Mo_four (n : Nat) (E : zE) (S : zS) (a0 : Nat) (x1 : Int32) (M : zH) : Option (zH) :=
  F_Mo_four_b3 n E S (a0, x1, 24, M)
theorem K_Mo_four_L3 (n : Nat) (E : zE) (S : zS) (r3 : Nat × Int32 × Int32 × zH → Option (zH)) (a0 : Nat) (x1 : Int32) (x2 : Int32) (M : zH) (M' : zH) (hr3 : ∀ (a0 : Nat) (x1 : Int32) (x2 : Int32) (M : zH), r3 (a0, x1, x2, M) = some M' → zG E Y_Mo_four (none, S, M') 3 [(0, .ref a0), (1, .int x1), (2, .int x2)] [] S M 0 0) (h : F_Mo_four_L3 n E S r3 a0 x1 x2 M = some M') : zG E Y_Mo_four (none, S, M') 3 [(0, .ref a0), (1, .int x1), (2, .int x2)] [] S M 0 0 := by
  unfold F_Mo_four_L3 at h
  refine zi_iload_n 2 d_Mo_four_3 rfl ?_
  refine zi_if_lt (tgt := 39) d_Mo_four_4 rfl (fun c1 => ?_) (fun c1 => ?_)
  · rw [if_pos c1] at h
    cases h
    exact zo_ret d_Mo_four_39 (Nat.le_of_ble_eq_true rfl) (Nat.le_of_ble_eq_true rfl) rfl
  · rw [if_neg c1] at h
    refine zi_aload_n 0 d_Mo_four_7 rfl ?_
    obtain ⟨b2, eb2, h⟩ := zbind h
    refine zo_getR 11 zkd_11 12 d_Mo_four_8 eb2 rfl tw_1243 rfl ?_
    refine zi_aload_n 0 d_Mo_four_11 rfl ?_
    obtain ⟨v3, ev3, h⟩ := zbind h
    refine zo_getI 15 zkd_11 13 d_Mo_four_12 ev3 rfl tw_1244 rfl ?_
    refine zi_iload_n 1 d_Mo_four_15 rfl ?_
    refine zi_iload_n 2 d_Mo_four_16 rfl ?_
    refine zi_ishr d_Mo_four_17 ?_
    refine zi_sipush 255 d_Mo_four_18 rfl ?_
    refine zi_iand d_Mo_four_21 ?_
    obtain ⟨m4, em4, h⟩ := zbind h
    refine zo_iast 23 d_Mo_four_22 em4 rfl ?_
    refine zi_aload_n 0 d_Mo_four_23 rfl ?_
    refine zi_dup d_Mo_four_24 rfl ?_
    obtain ⟨v5, ev5, h⟩ := zbind h
    refine zo_getI 28 zkd_11 13 d_Mo_four_25 ev5 rfl tw_1244 rfl ?_
    refine zi_iconst 1 d_Mo_four_28 rfl ?_
    refine zi_iadd d_Mo_four_29 ?_
    obtain ⟨m6, em6, h⟩ := zbind h
    refine zo_putI 33 zkd_11 13 d_Mo_four_30 em6 rfl rfl rfl tw_1244 rfl ?_
    refine zi_iinc 2 (x2 + (-8)) [(2, .int (x2 + (-8))), (0, .ref a0), (1, .int x1)] d_Mo_four_33 rfl rfl (by decide) rfl ?_
    refine zi_goto (tgt := 3) d_Mo_four_36 rfl ?_
    refine zi_lo [(0, .ref a0), (1, .int x1), (2, .int (x2 + (-8)))] [1, 2, 0] rfl ?_
    exact hr3 a0 x1 (x2 + (-8)) m6 h
theorem K_Mo_four_b3 (n : Nat) (E : zE) (S : zS) (a0 : Nat) (x1 : Int32) (x2 : Int32) (M : zH) (M' : zH)  (h : F_Mo_four_b3 n E S (a0, x1, x2, M) = some M') : zG E Y_Mo_four (none, S, M') 3 [(0, .ref a0), (1, .int x1), (2, .int x2)] [] S M 0 0 := by
  have key : ∀ (k : Nat) (a0 : Nat) (x1 : Int32) (x2 : Int32) (M : zH), zfix (fun r3 s => F_Mo_four_L3 n E S r3 s.1 s.2.1 s.2.2.1 s.2.2.2) k (a0, x1, x2, M) = some M' → zG E Y_Mo_four (none, S, M') 3 [(0, .ref a0), (1, .int x1), (2, .int x2)] [] S M 0 0 := by
    intro k
    induction k with
    | zero => intro a0 x1 x2 M h; cases h
    | succ k ih => intro a0 x1 x2 M h; exact K_Mo_four_L3 n E S _ a0 x1 x2 M M'  (fun a0 x1 x2 M h => ih a0 x1 x2 M h) h
  exact key n a0 x1 x2 M h
theorem K_Mo_four (n : Nat) (E : zE) (S : zS) (a0 : Nat) (x1 : Int32) (M : zH) (M' : zH)  (h : F_Mo_four n E S a0 x1 M = some M') : zG E Y_Mo_four (none, S, M') 0 [(0, .ref a0), (1, .int x1)] [] S M 0 0 := by
  unfold F_Mo_four at h
  refine zi_bipush 24 d_Mo_four_0 rfl ?_
  refine zi_istore_n [(2, .int 24), (0, .ref a0), (1, .int x1)] d_Mo_four_2 (by decide) rfl ?_
  refine zi_lo [(0, .ref a0), (1, .int x1), (2, .int 24)] [1, 2, 0] rfl ?_
  exact K_Mo_four_b3 n E S a0 x1 24 M M'  h
theorem C_Mo_four (n : Nat) (E : zE) (S : zS) (a0 : Nat) (x1 : Int32) (M : zH) (M' : zH) (h : F_Mo_four n E S a0 x1 M = some M') : zC E Y_Mo_four [.ref a0, .int x1] S M (none, S, M') :=
  zC.of (Or.inl (show plainName "NightColanderModel" = true by decide)) (Nat.le_of_ble_eq_true rfl) (trivial) (K_Mo_four n E S a0 x1 M M' h)
theorem d_Mo_feed_0 : decode (yB Y_Mo_feed) 0 = .ok (.aload_n 0, 1) := by decide +kernel
theorem d_Mo_feed_1 : decode (yB Y_Mo_feed) 1 = .ok (.iconst 0, 1) := by decide +kernel
theorem d_Mo_feed_2 : decode (yB Y_Mo_feed) 2 = .ok (.putfield 156, 3) := by decide +kernel
theorem d_Mo_feed_5 : decode (yB Y_Mo_feed) 5 = .ok (.aload_n 0, 1) := by decide +kernel
theorem d_Mo_feed_6 : decode (yB Y_Mo_feed) 6 = .ok (.getfield 244, 3) := by decide +kernel
theorem d_Mo_feed_9 : decode (yB Y_Mo_feed) 9 = .ok (.bipush 20, 2) := by decide +kernel
theorem d_Mo_feed_11 : decode (yB Y_Mo_feed) 11 = .ok (.iadd, 1) := by decide +kernel
theorem d_Mo_feed_12 : decode (yB Y_Mo_feed) 12 = .ok (.sipush 400, 3) := by decide +kernel
theorem d_Mo_feed_15 : decode (yB Y_Mo_feed) 15 = .ok (.if_icmp .le 5, 3) := by decide +kernel
theorem d_Mo_feed_18 : decode (yB Y_Mo_feed) 18 = .ok (.iconst (-1), 1) := by decide +kernel
theorem d_Mo_feed_19 : decode (yB Y_Mo_feed) 19 = .ok (.ireturn, 1) := by decide +kernel
theorem d_Mo_feed_20 : decode (yB Y_Mo_feed) 20 = .ok (.aload_n 0, 1) := by decide +kernel
theorem d_Mo_feed_21 : decode (yB Y_Mo_feed) 21 = .ok (.iload_n 1, 1) := by decide +kernel
theorem d_Mo_feed_22 : decode (yB Y_Mo_feed) 22 = .ok (.invokevirtual 250, 3) := by decide +kernel
theorem d_Mo_feed_25 : decode (yB Y_Mo_feed) 25 = .ok (.aload_n 0, 1) := by decide +kernel
theorem d_Mo_feed_26 : decode (yB Y_Mo_feed) 26 = .ok (.iload_n 2, 1) := by decide +kernel
theorem d_Mo_feed_27 : decode (yB Y_Mo_feed) 27 = .ok (.invokevirtual 250, 3) := by decide +kernel
theorem d_Mo_feed_30 : decode (yB Y_Mo_feed) 30 = .ok (.aload_n 0, 1) := by decide +kernel
theorem d_Mo_feed_31 : decode (yB Y_Mo_feed) 31 = .ok (.iload_n 3, 1) := by decide +kernel
theorem d_Mo_feed_32 : decode (yB Y_Mo_feed) 32 = .ok (.invokevirtual 250, 3) := by decide +kernel
theorem d_Mo_feed_35 : decode (yB Y_Mo_feed) 35 = .ok (.aload_n 0, 1) := by decide +kernel
theorem d_Mo_feed_36 : decode (yB Y_Mo_feed) 36 = .ok (.iload 4, 2) := by decide +kernel
theorem d_Mo_feed_38 : decode (yB Y_Mo_feed) 38 = .ok (.invokevirtual 250, 3) := by decide +kernel
theorem d_Mo_feed_41 : decode (yB Y_Mo_feed) 41 = .ok (.aload_n 0, 1) := by decide +kernel
theorem d_Mo_feed_42 : decode (yB Y_Mo_feed) 42 = .ok (.iload 5, 2) := by decide +kernel
theorem d_Mo_feed_44 : decode (yB Y_Mo_feed) 44 = .ok (.invokevirtual 250, 3) := by decide +kernel
theorem d_Mo_feed_47 : decode (yB Y_Mo_feed) 47 = .ok (.aload_n 0, 1) := by decide +kernel
theorem d_Mo_feed_48 : decode (yB Y_Mo_feed) 48 = .ok (.getfield 244, 3) := by decide +kernel
theorem d_Mo_feed_51 : decode (yB Y_Mo_feed) 51 = .ok (.ireturn, 1) := by decide +kernel
def F_Mo_feed (n : Nat) (E : zE) (S : zS) (a0 : Nat) (x1 : Int32) (x2 : Int32) (x3 : Int32) (x4 : Int32) (x5 : Int32) (M : zH) : Option (Int32 × zH) :=
  (zpI S M a0 11 0 0).bind fun m1 =>
  (zgI S m1 a0 11 13).bind fun v2 =>
  if (v2 + 20) ≤ 400 then
    (F_Mo_four n E S a0 x1 m1).bind fun q4 =>
    (F_Mo_four n E S a0 x2 q4).bind fun q5 =>
    (F_Mo_four n E S a0 x3 q5).bind fun q6 =>
    (F_Mo_four n E S a0 x4 q6).bind fun q7 =>
    (F_Mo_four n E S a0 x5 q7).bind fun q8 =>
    (zgI S q8 a0 11 13).bind fun v9 =>
    some (v9, q8)
  else
    some ((-1), m1)
theorem K_Mo_feed (n : Nat) (E : zE) (S : zS) (a0 : Nat) (x1 : Int32) (x2 : Int32) (x3 : Int32) (x4 : Int32) (x5 : Int32) (M : zH) (r : Int32) (M' : zH)  (h : F_Mo_feed n E S a0 x1 x2 x3 x4 x5 M = some (r, M')) : zG E Y_Mo_feed (some (.int r), S, M') 0 [(0, .ref a0), (1, .int x1), (2, .int x2), (3, .int x3), (4, .int x4), (5, .int x5)] [] S M 0 0 := by
  unfold F_Mo_feed at h
  refine zi_aload_n 0 d_Mo_feed_0 rfl ?_
  refine zi_iconst 0 d_Mo_feed_1 rfl ?_
  obtain ⟨m1, em1, h⟩ := zbind h
  refine zo_putI 5 zkd_11 0 d_Mo_feed_2 em1 rfl rfl rfl tw_1231 rfl ?_
  refine zi_aload_n 0 d_Mo_feed_5 rfl ?_
  obtain ⟨v2, ev2, h⟩ := zbind h
  refine zo_getI 9 zkd_11 13 d_Mo_feed_6 ev2 rfl tw_1244 rfl ?_
  refine zi_bipush 20 d_Mo_feed_9 rfl ?_
  refine zi_iadd d_Mo_feed_11 ?_
  refine zi_sipush 400 d_Mo_feed_12 rfl ?_
  refine zi_icmp_le (tgt := 20) d_Mo_feed_15 rfl (fun c3 => ?_) (fun c3 => ?_)
  · rw [if_pos c3] at h
    refine zi_aload_n 0 d_Mo_feed_20 rfl ?_
    refine zi_iload_n 1 d_Mo_feed_21 rfl ?_
    obtain ⟨q4, eq4, h⟩ := zbind h
    refine zo_virt (k' := 0) (n' := 0) 25 [.int x1] [] [] zkd_11 (zgI_s ev2).1 (C_Mo_four n E S a0 x1 m1 q4 eq4) d_Mo_feed_22 tw_1555 tw_1552 tw_1554 ts_53 tw_13 dd_Mo_four ⟨Nat.le_of_ble_eq_true rfl, Nat.le_of_ble_eq_true rfl, Nat.le_of_ble_eq_true rfl, Nat.le_of_ble_eq_true rfl⟩ (Nat.le_of_ble_eq_true rfl) rfl rfl rfl rfl ?_
    refine zi_aload_n 0 d_Mo_feed_25 rfl ?_
    refine zi_iload_n 2 d_Mo_feed_26 rfl ?_
    obtain ⟨q5, eq5, h⟩ := zbind h
    refine zo_virt (k' := 0) (n' := 0) 30 [.int x2] [] [] zkd_11 (zgI_s ev2).1 (C_Mo_four n E S a0 x2 q4 q5 eq5) d_Mo_feed_27 tw_1555 tw_1552 tw_1554 ts_53 tw_13 dd_Mo_four ⟨Nat.le_of_ble_eq_true rfl, Nat.le_of_ble_eq_true rfl, Nat.le_of_ble_eq_true rfl, Nat.le_of_ble_eq_true rfl⟩ (Nat.le_of_ble_eq_true rfl) rfl rfl rfl rfl ?_
    refine zi_aload_n 0 d_Mo_feed_30 rfl ?_
    refine zi_iload_n 3 d_Mo_feed_31 rfl ?_
    obtain ⟨q6, eq6, h⟩ := zbind h
    refine zo_virt (k' := 0) (n' := 0) 35 [.int x3] [] [] zkd_11 (zgI_s ev2).1 (C_Mo_four n E S a0 x3 q5 q6 eq6) d_Mo_feed_32 tw_1555 tw_1552 tw_1554 ts_53 tw_13 dd_Mo_four ⟨Nat.le_of_ble_eq_true rfl, Nat.le_of_ble_eq_true rfl, Nat.le_of_ble_eq_true rfl, Nat.le_of_ble_eq_true rfl⟩ (Nat.le_of_ble_eq_true rfl) rfl rfl rfl rfl ?_
    refine zi_aload_n 0 d_Mo_feed_35 rfl ?_
    refine zi_iload 4 d_Mo_feed_36 rfl ?_
    obtain ⟨q7, eq7, h⟩ := zbind h
    refine zo_virt (k' := 0) (n' := 0) 41 [.int x4] [] [] zkd_11 (zgI_s ev2).1 (C_Mo_four n E S a0 x4 q6 q7 eq7) d_Mo_feed_38 tw_1555 tw_1552 tw_1554 ts_53 tw_13 dd_Mo_four ⟨Nat.le_of_ble_eq_true rfl, Nat.le_of_ble_eq_true rfl, Nat.le_of_ble_eq_true rfl, Nat.le_of_ble_eq_true rfl⟩ (Nat.le_of_ble_eq_true rfl) rfl rfl rfl rfl ?_
    refine zi_aload_n 0 d_Mo_feed_41 rfl ?_
    refine zi_iload 5 d_Mo_feed_42 rfl ?_
    obtain ⟨q8, eq8, h⟩ := zbind h
    refine zo_virt (k' := 0) (n' := 0) 47 [.int x5] [] [] zkd_11 (zgI_s ev2).1 (C_Mo_four n E S a0 x5 q7 q8 eq8) d_Mo_feed_44 tw_1555 tw_1552 tw_1554 ts_53 tw_13 dd_Mo_four ⟨Nat.le_of_ble_eq_true rfl, Nat.le_of_ble_eq_true rfl, Nat.le_of_ble_eq_true rfl, Nat.le_of_ble_eq_true rfl⟩ (Nat.le_of_ble_eq_true rfl) rfl rfl rfl rfl ?_
    refine zi_aload_n 0 d_Mo_feed_47 rfl ?_
    obtain ⟨v9, ev9, h⟩ := zbind h
    refine zo_getI 51 zkd_11 13 d_Mo_feed_48 ev9 rfl tw_1244 rfl ?_
    cases h
    exact zo_ret d_Mo_feed_51 (Nat.le_of_ble_eq_true rfl) (Nat.le_of_ble_eq_true rfl) rfl
  · rw [if_neg c3] at h
    refine zi_iconst (-1) d_Mo_feed_18 rfl ?_
    cases h
    exact zo_ret d_Mo_feed_19 (Nat.le_of_ble_eq_true rfl) (Nat.le_of_ble_eq_true rfl) rfl
theorem C_Mo_feed (n : Nat) (E : zE) (S : zS) (a0 : Nat) (x1 : Int32) (x2 : Int32) (x3 : Int32) (x4 : Int32) (x5 : Int32) (M : zH) (r : Int32) (M' : zH) (h : F_Mo_feed n E S a0 x1 x2 x3 x4 x5 M = some (r, M')) : zC E Y_Mo_feed [.ref a0, .int x1, .int x2, .int x3, .int x4, .int x5] S M (some (.int r), S, M') :=
  zC.of (Or.inl (show plainName "NightColanderModel" = true by decide)) (Nat.le_of_ble_eq_true rfl) (trivial) (K_Mo_feed n E S a0 x1 x2 x3 x4 x5 M r M' h)
theorem d_Mo_end_0 : decode (yB Y_Mo_end) 0 = .ok (.aload_n 0, 1) := by decide +kernel
theorem d_Mo_end_1 : decode (yB Y_Mo_end) 1 = .ok (.iconst 0, 1) := by decide +kernel
theorem d_Mo_end_2 : decode (yB Y_Mo_end) 2 = .ok (.putfield 156, 3) := by decide +kernel
theorem d_Mo_end_5 : decode (yB Y_Mo_end) 5 = .ok (.iload_n 1, 1) := by decide +kernel
theorem d_Mo_end_6 : decode (yB Y_Mo_end) 6 = .ok (.ifCond .lt 11, 3) := by decide +kernel
theorem d_Mo_end_9 : decode (yB Y_Mo_end) 9 = .ok (.iload_n 1, 1) := by decide +kernel
theorem d_Mo_end_10 : decode (yB Y_Mo_end) 10 = .ok (.aload_n 0, 1) := by decide +kernel
theorem d_Mo_end_11 : decode (yB Y_Mo_end) 11 = .ok (.getfield 244, 3) := by decide +kernel
theorem d_Mo_end_14 : decode (yB Y_Mo_end) 14 = .ok (.if_icmp .le 5, 3) := by decide +kernel
theorem d_Mo_end_17 : decode (yB Y_Mo_end) 17 = .ok (.iconst (-1), 1) := by decide +kernel
theorem d_Mo_end_18 : decode (yB Y_Mo_end) 18 = .ok (.ireturn, 1) := by decide +kernel
theorem d_Mo_end_19 : decode (yB Y_Mo_end) 19 = .ok (.aload_n 0, 1) := by decide +kernel
theorem d_Mo_end_20 : decode (yB Y_Mo_end) 20 = .ok (.iload_n 1, 1) := by decide +kernel
theorem d_Mo_end_21 : decode (yB Y_Mo_end) 21 = .ok (.putfield 244, 3) := by decide +kernel
theorem d_Mo_end_24 : decode (yB Y_Mo_end) 24 = .ok (.iload_n 1, 1) := by decide +kernel
theorem d_Mo_end_25 : decode (yB Y_Mo_end) 25 = .ok (.ireturn, 1) := by decide +kernel
def F_Mo_end (n : Nat) (E : zE) (S : zS) (a0 : Nat) (x1 : Int32) (M : zH) : Option (Int32 × zH) :=
  (zpI S M a0 11 0 0).bind fun m1 =>
  if x1 < 0 then
    some ((-1), m1)
  else
    (zgI S m1 a0 11 13).bind fun v3 =>
    if x1 ≤ v3 then
      (zpI S m1 a0 11 13 x1).bind fun m5 =>
      some (x1, m5)
    else
      some ((-1), m1)
theorem K_Mo_end (n : Nat) (E : zE) (S : zS) (a0 : Nat) (x1 : Int32) (M : zH) (r : Int32) (M' : zH)  (h : F_Mo_end n E S a0 x1 M = some (r, M')) : zG E Y_Mo_end (some (.int r), S, M') 0 [(0, .ref a0), (1, .int x1)] [] S M 0 0 := by
  unfold F_Mo_end at h
  refine zi_aload_n 0 d_Mo_end_0 rfl ?_
  refine zi_iconst 0 d_Mo_end_1 rfl ?_
  obtain ⟨m1, em1, h⟩ := zbind h
  refine zo_putI 5 zkd_11 0 d_Mo_end_2 em1 rfl rfl rfl tw_1231 rfl ?_
  refine zi_iload_n 1 d_Mo_end_5 rfl ?_
  refine zi_if_lt (tgt := 17) d_Mo_end_6 rfl (fun c2 => ?_) (fun c2 => ?_)
  · rw [if_pos c2] at h
    refine zi_iconst (-1) d_Mo_end_17 rfl ?_
    cases h
    exact zo_ret d_Mo_end_18 (Nat.le_of_ble_eq_true rfl) (Nat.le_of_ble_eq_true rfl) rfl
  · rw [if_neg c2] at h
    refine zi_iload_n 1 d_Mo_end_9 rfl ?_
    refine zi_aload_n 0 d_Mo_end_10 rfl ?_
    obtain ⟨v3, ev3, h⟩ := zbind h
    refine zo_getI 14 zkd_11 13 d_Mo_end_11 ev3 rfl tw_1244 rfl ?_
    refine zi_icmp_le (tgt := 19) d_Mo_end_14 rfl (fun c4 => ?_) (fun c4 => ?_)
    · rw [if_pos c4] at h
      refine zi_aload_n 0 d_Mo_end_19 rfl ?_
      refine zi_iload_n 1 d_Mo_end_20 rfl ?_
      obtain ⟨m5, em5, h⟩ := zbind h
      refine zo_putI 24 zkd_11 13 d_Mo_end_21 em5 rfl rfl rfl tw_1244 rfl ?_
      refine zi_iload_n 1 d_Mo_end_24 rfl ?_
      cases h
      exact zo_ret d_Mo_end_25 (Nat.le_of_ble_eq_true rfl) (Nat.le_of_ble_eq_true rfl) rfl
    · rw [if_neg c4] at h
      refine zi_iconst (-1) d_Mo_end_17 rfl ?_
      cases h
      exact zo_ret d_Mo_end_18 (Nat.le_of_ble_eq_true rfl) (Nat.le_of_ble_eq_true rfl) rfl
theorem C_Mo_end (n : Nat) (E : zE) (S : zS) (a0 : Nat) (x1 : Int32) (M : zH) (r : Int32) (M' : zH) (h : F_Mo_end n E S a0 x1 M = some (r, M')) : zC E Y_Mo_end [.ref a0, .int x1] S M (some (.int r), S, M') :=
  zC.of (Or.inl (show plainName "NightColanderModel" = true by decide)) (Nat.le_of_ble_eq_true rfl) (trivial) (K_Mo_end n E S a0 x1 M r M' h)
theorem d_Mo_fault_0 : decode (yB Y_Mo_fault) 0 = .ok (.aload_n 0, 1) := by decide +kernel
theorem d_Mo_fault_1 : decode (yB Y_Mo_fault) 1 = .ok (.iconst 0, 1) := by decide +kernel
theorem d_Mo_fault_2 : decode (yB Y_Mo_fault) 2 = .ok (.putfield 156, 3) := by decide +kernel
theorem d_Mo_fault_5 : decode (yB Y_Mo_fault) 5 = .ok (.aload_n 0, 1) := by decide +kernel
theorem d_Mo_fault_6 : decode (yB Y_Mo_fault) 6 = .ok (.getfield 38, 3) := by decide +kernel
theorem d_Mo_fault_9 : decode (yB Y_Mo_fault) 9 = .ok (.ireturn, 1) := by decide +kernel
def F_Mo_fault (n : Nat) (E : zE) (S : zS) (a0 : Nat) (M : zH) : Option (Int32 × zH) :=
  (zpI S M a0 11 0 0).bind fun m1 =>
  (zgI S m1 a0 11 18).bind fun v2 =>
  some (v2, m1)
theorem K_Mo_fault (n : Nat) (E : zE) (S : zS) (a0 : Nat) (M : zH) (r : Int32) (M' : zH)  (h : F_Mo_fault n E S a0 M = some (r, M')) : zG E Y_Mo_fault (some (.int r), S, M') 0 [(0, .ref a0)] [] S M 0 0 := by
  unfold F_Mo_fault at h
  refine zi_aload_n 0 d_Mo_fault_0 rfl ?_
  refine zi_iconst 0 d_Mo_fault_1 rfl ?_
  obtain ⟨m1, em1, h⟩ := zbind h
  refine zo_putI 5 zkd_11 0 d_Mo_fault_2 em1 rfl rfl rfl tw_1231 rfl ?_
  refine zi_aload_n 0 d_Mo_fault_5 rfl ?_
  obtain ⟨v2, ev2, h⟩ := zbind h
  refine zo_getI 9 zkd_11 18 d_Mo_fault_6 ev2 rfl tw_1249 rfl ?_
  cases h
  exact zo_ret d_Mo_fault_9 (Nat.le_of_ble_eq_true rfl) (Nat.le_of_ble_eq_true rfl) rfl
theorem C_Mo_fault (n : Nat) (E : zE) (S : zS) (a0 : Nat) (M : zH) (r : Int32) (M' : zH) (h : F_Mo_fault n E S a0 M = some (r, M')) : zC E Y_Mo_fault [.ref a0] S M (some (.int r), S, M') :=
  zC.of (Or.inl (show plainName "NightColanderModel" = true by decide)) (Nat.le_of_ble_eq_true rfl) (trivial) (K_Mo_fault n E S a0 M r M' h)
theorem d_Mo_isDigit_0 : decode (yB Y_Mo_isDigit) 0 = .ok (.iload_n 0, 1) := by decide +kernel
theorem d_Mo_isDigit_1 : decode (yB Y_Mo_isDigit) 1 = .ok (.bipush 48, 2) := by decide +kernel
theorem d_Mo_isDigit_3 : decode (yB Y_Mo_isDigit) 3 = .ok (.if_icmp .lt 13, 3) := by decide +kernel
theorem d_Mo_isDigit_6 : decode (yB Y_Mo_isDigit) 6 = .ok (.iload_n 0, 1) := by decide +kernel
theorem d_Mo_isDigit_7 : decode (yB Y_Mo_isDigit) 7 = .ok (.bipush 57, 2) := by decide +kernel
theorem d_Mo_isDigit_9 : decode (yB Y_Mo_isDigit) 9 = .ok (.if_icmp .gt 7, 3) := by decide +kernel
theorem d_Mo_isDigit_12 : decode (yB Y_Mo_isDigit) 12 = .ok (.iconst 1, 1) := by decide +kernel
theorem d_Mo_isDigit_13 : decode (yB Y_Mo_isDigit) 13 = .ok (.goto 4, 3) := by decide +kernel
theorem d_Mo_isDigit_16 : decode (yB Y_Mo_isDigit) 16 = .ok (.iconst 0, 1) := by decide +kernel
theorem d_Mo_isDigit_17 : decode (yB Y_Mo_isDigit) 17 = .ok (.ireturn, 1) := by decide +kernel
def F_Mo_isDigit (n : Nat) (E : zE) (S : zS) (x0 : Int32) (M : zH) : Option (Bool × zH) :=
  if x0 < 48 then
    some (false, M)
  else
    if 57 < x0 then
      some (false, M)
    else
      some (true, M)
theorem K_Mo_isDigit (n : Nat) (E : zE) (S : zS) (x0 : Int32) (M : zH) (r : Bool) (M' : zH)  (h : F_Mo_isDigit n E S x0 M = some (r, M')) : zG E Y_Mo_isDigit (some (.int (bI r)), S, M') 0 [(0, .int x0)] [] S M 0 0 := by
  unfold F_Mo_isDigit at h
  refine zi_iload_n 0 d_Mo_isDigit_0 rfl ?_
  refine zi_bipush 48 d_Mo_isDigit_1 rfl ?_
  refine zi_icmp_lt (tgt := 16) d_Mo_isDigit_3 rfl (fun c1 => ?_) (fun c1 => ?_)
  · rw [if_pos c1] at h
    refine zi_iconst 0 d_Mo_isDigit_16 rfl ?_
    cases h
    exact zo_retB d_Mo_isDigit_17 (Nat.le_of_ble_eq_true rfl) (Nat.le_of_ble_eq_true rfl) rfl
  · rw [if_neg c1] at h
    refine zi_iload_n 0 d_Mo_isDigit_6 rfl ?_
    refine zi_bipush 57 d_Mo_isDigit_7 rfl ?_
    refine zi_icmp_gt (tgt := 16) d_Mo_isDigit_9 rfl (fun c2 => ?_) (fun c2 => ?_)
    · rw [if_pos c2] at h
      refine zi_iconst 0 d_Mo_isDigit_16 rfl ?_
      cases h
      exact zo_retB d_Mo_isDigit_17 (Nat.le_of_ble_eq_true rfl) (Nat.le_of_ble_eq_true rfl) rfl
    · rw [if_neg c2] at h
      refine zi_iconst 1 d_Mo_isDigit_12 rfl ?_
      refine zi_goto (tgt := 17) d_Mo_isDigit_13 rfl ?_
      cases h
      exact zo_retB d_Mo_isDigit_17 (Nat.le_of_ble_eq_true rfl) (Nat.le_of_ble_eq_true rfl) rfl
theorem C_Mo_isDigit (n : Nat) (E : zE) (S : zS) (x0 : Int32) (M : zH) (r : Bool) (M' : zH) (h : F_Mo_isDigit n E S x0 M = some (r, M')) : zC E Y_Mo_isDigit [.int x0] S M (some (.int (bI r)), S, M') :=
  zC.of (Or.inl (show plainName "NightColanderModel" = true by decide)) (Nat.le_of_ble_eq_true rfl) (bI_nar r) (K_Mo_isDigit n E S x0 M r M' h)
theorem d_Mo_isSmall_0 : decode (yB Y_Mo_isSmall) 0 = .ok (.iload_n 0, 1) := by decide +kernel
theorem d_Mo_isSmall_1 : decode (yB Y_Mo_isSmall) 1 = .ok (.bipush 97, 2) := by decide +kernel
theorem d_Mo_isSmall_3 : decode (yB Y_Mo_isSmall) 3 = .ok (.if_icmp .lt 13, 3) := by decide +kernel
theorem d_Mo_isSmall_6 : decode (yB Y_Mo_isSmall) 6 = .ok (.iload_n 0, 1) := by decide +kernel
theorem d_Mo_isSmall_7 : decode (yB Y_Mo_isSmall) 7 = .ok (.bipush 122, 2) := by decide +kernel
theorem d_Mo_isSmall_9 : decode (yB Y_Mo_isSmall) 9 = .ok (.if_icmp .gt 7, 3) := by decide +kernel
theorem d_Mo_isSmall_12 : decode (yB Y_Mo_isSmall) 12 = .ok (.iconst 1, 1) := by decide +kernel
theorem d_Mo_isSmall_13 : decode (yB Y_Mo_isSmall) 13 = .ok (.goto 4, 3) := by decide +kernel
theorem d_Mo_isSmall_16 : decode (yB Y_Mo_isSmall) 16 = .ok (.iconst 0, 1) := by decide +kernel
theorem d_Mo_isSmall_17 : decode (yB Y_Mo_isSmall) 17 = .ok (.ireturn, 1) := by decide +kernel
def F_Mo_isSmall (n : Nat) (E : zE) (S : zS) (x0 : Int32) (M : zH) : Option (Bool × zH) :=
  if x0 < 97 then
    some (false, M)
  else
    if 122 < x0 then
      some (false, M)
    else
      some (true, M)
theorem K_Mo_isSmall (n : Nat) (E : zE) (S : zS) (x0 : Int32) (M : zH) (r : Bool) (M' : zH)  (h : F_Mo_isSmall n E S x0 M = some (r, M')) : zG E Y_Mo_isSmall (some (.int (bI r)), S, M') 0 [(0, .int x0)] [] S M 0 0 := by
  unfold F_Mo_isSmall at h
  refine zi_iload_n 0 d_Mo_isSmall_0 rfl ?_
  refine zi_bipush 97 d_Mo_isSmall_1 rfl ?_
  refine zi_icmp_lt (tgt := 16) d_Mo_isSmall_3 rfl (fun c1 => ?_) (fun c1 => ?_)
  · rw [if_pos c1] at h
    refine zi_iconst 0 d_Mo_isSmall_16 rfl ?_
    cases h
    exact zo_retB d_Mo_isSmall_17 (Nat.le_of_ble_eq_true rfl) (Nat.le_of_ble_eq_true rfl) rfl
  · rw [if_neg c1] at h
    refine zi_iload_n 0 d_Mo_isSmall_6 rfl ?_
    refine zi_bipush 122 d_Mo_isSmall_7 rfl ?_
    refine zi_icmp_gt (tgt := 16) d_Mo_isSmall_9 rfl (fun c2 => ?_) (fun c2 => ?_)
    · rw [if_pos c2] at h
      refine zi_iconst 0 d_Mo_isSmall_16 rfl ?_
      cases h
      exact zo_retB d_Mo_isSmall_17 (Nat.le_of_ble_eq_true rfl) (Nat.le_of_ble_eq_true rfl) rfl
    · rw [if_neg c2] at h
      refine zi_iconst 1 d_Mo_isSmall_12 rfl ?_
      refine zi_goto (tgt := 17) d_Mo_isSmall_13 rfl ?_
      cases h
      exact zo_retB d_Mo_isSmall_17 (Nat.le_of_ble_eq_true rfl) (Nat.le_of_ble_eq_true rfl) rfl
theorem C_Mo_isSmall (n : Nat) (E : zE) (S : zS) (x0 : Int32) (M : zH) (r : Bool) (M' : zH) (h : F_Mo_isSmall n E S x0 M = some (r, M')) : zC E Y_Mo_isSmall [.int x0] S M (some (.int (bI r)), S, M') :=
  zC.of (Or.inl (show plainName "NightColanderModel" = true by decide)) (Nat.le_of_ble_eq_true rfl) (bI_nar r) (K_Mo_isSmall n E S x0 M r M' h)
theorem d_Mo_next_0 : decode (yB Y_Mo_next) 0 = .ok (.aload_n 0, 1) := by decide +kernel
theorem d_Mo_next_1 : decode (yB Y_Mo_next) 1 = .ok (.aload_n 0, 1) := by decide +kernel
theorem d_Mo_next_2 : decode (yB Y_Mo_next) 2 = .ok (.getfield 253, 3) := by decide +kernel
theorem d_Mo_next_5 : decode (yB Y_Mo_next) 5 = .ok (.putfield 263, 3) := by decide +kernel
theorem d_Mo_next_8 : decode (yB Y_Mo_next) 8 = .ok (.aload_n 0, 1) := by decide +kernel
theorem d_Mo_next_9 : decode (yB Y_Mo_next) 9 = .ok (.getfield 263, 3) := by decide +kernel
theorem d_Mo_next_12 : decode (yB Y_Mo_next) 12 = .ok (.aload_n 0, 1) := by decide +kernel
theorem d_Mo_next_13 : decode (yB Y_Mo_next) 13 = .ok (.getfield 244, 3) := by decide +kernel
theorem d_Mo_next_16 : decode (yB Y_Mo_next) 16 = .ok (.if_icmp .ge 30, 3) := by decide +kernel
theorem d_Mo_next_19 : decode (yB Y_Mo_next) 19 = .ok (.aload_n 0, 1) := by decide +kernel
theorem d_Mo_next_20 : decode (yB Y_Mo_next) 20 = .ok (.getfield 35, 3) := by decide +kernel
theorem d_Mo_next_23 : decode (yB Y_Mo_next) 23 = .ok (.aload_n 0, 1) := by decide +kernel
theorem d_Mo_next_24 : decode (yB Y_Mo_next) 24 = .ok (.getfield 263, 3) := by decide +kernel
theorem d_Mo_next_27 : decode (yB Y_Mo_next) 27 = .ok (.iaload, 1) := by decide +kernel
theorem d_Mo_next_28 : decode (yB Y_Mo_next) 28 = .ok (.bipush 32, 2) := by decide +kernel
theorem d_Mo_next_30 : decode (yB Y_Mo_next) 30 = .ok (.if_icmp .ne 16, 3) := by decide +kernel
theorem d_Mo_next_33 : decode (yB Y_Mo_next) 33 = .ok (.aload_n 0, 1) := by decide +kernel
theorem d_Mo_next_34 : decode (yB Y_Mo_next) 34 = .ok (.dup, 1) := by decide +kernel
theorem d_Mo_next_35 : decode (yB Y_Mo_next) 35 = .ok (.getfield 263, 3) := by decide +kernel
theorem d_Mo_next_38 : decode (yB Y_Mo_next) 38 = .ok (.iconst 1, 1) := by decide +kernel
theorem d_Mo_next_39 : decode (yB Y_Mo_next) 39 = .ok (.iadd, 1) := by decide +kernel
theorem d_Mo_next_40 : decode (yB Y_Mo_next) 40 = .ok (.putfield 263, 3) := by decide +kernel
theorem d_Mo_next_43 : decode (yB Y_Mo_next) 43 = .ok (.goto (-35), 3) := by decide +kernel
theorem d_Mo_next_46 : decode (yB Y_Mo_next) 46 = .ok (.aload_n 0, 1) := by decide +kernel
theorem d_Mo_next_47 : decode (yB Y_Mo_next) 47 = .ok (.aload_n 0, 1) := by decide +kernel
theorem d_Mo_next_48 : decode (yB Y_Mo_next) 48 = .ok (.getfield 263, 3) := by decide +kernel
theorem d_Mo_next_51 : decode (yB Y_Mo_next) 51 = .ok (.putfield 253, 3) := by decide +kernel
theorem d_Mo_next_54 : decode (yB Y_Mo_next) 54 = .ok (.aload_n 0, 1) := by decide +kernel
theorem d_Mo_next_55 : decode (yB Y_Mo_next) 55 = .ok (.lconst 0, 1) := by decide +kernel
theorem d_Mo_next_56 : decode (yB Y_Mo_next) 56 = .ok (.putfield 266, 3) := by decide +kernel
theorem d_Mo_next_59 : decode (yB Y_Mo_next) 59 = .ok (.aload_n 0, 1) := by decide +kernel
theorem d_Mo_next_60 : decode (yB Y_Mo_next) 60 = .ok (.aload_n 0, 1) := by decide +kernel
theorem d_Mo_next_61 : decode (yB Y_Mo_next) 61 = .ok (.getfield 263, 3) := by decide +kernel
theorem d_Mo_next_64 : decode (yB Y_Mo_next) 64 = .ok (.aload_n 0, 1) := by decide +kernel
theorem d_Mo_next_65 : decode (yB Y_Mo_next) 65 = .ok (.getfield 244, 3) := by decide +kernel
theorem d_Mo_next_68 : decode (yB Y_Mo_next) 68 = .ok (.if_icmp .ne 7, 3) := by decide +kernel
theorem d_Mo_next_71 : decode (yB Y_Mo_next) 71 = .ok (.iconst 0, 1) := by decide +kernel
theorem d_Mo_next_72 : decode (yB Y_Mo_next) 72 = .ok (.goto 42, 3) := by decide +kernel
theorem d_Mo_next_75 : decode (yB Y_Mo_next) 75 = .ok (.aload_n 0, 1) := by decide +kernel
theorem d_Mo_next_76 : decode (yB Y_Mo_next) 76 = .ok (.getfield 35, 3) := by decide +kernel
theorem d_Mo_next_79 : decode (yB Y_Mo_next) 79 = .ok (.aload_n 0, 1) := by decide +kernel
theorem d_Mo_next_80 : decode (yB Y_Mo_next) 80 = .ok (.getfield 263, 3) := by decide +kernel
theorem d_Mo_next_83 : decode (yB Y_Mo_next) 83 = .ok (.iaload, 1) := by decide +kernel
theorem d_Mo_next_84 : decode (yB Y_Mo_next) 84 = .ok (.invokestatic 270, 3) := by decide +kernel
theorem d_Mo_next_87 : decode (yB Y_Mo_next) 87 = .ok (.ifCond .eq 7, 3) := by decide +kernel
theorem d_Mo_next_90 : decode (yB Y_Mo_next) 90 = .ok (.iconst 1, 1) := by decide +kernel
theorem d_Mo_next_91 : decode (yB Y_Mo_next) 91 = .ok (.goto 23, 3) := by decide +kernel
theorem d_Mo_next_94 : decode (yB Y_Mo_next) 94 = .ok (.aload_n 0, 1) := by decide +kernel
theorem d_Mo_next_95 : decode (yB Y_Mo_next) 95 = .ok (.getfield 35, 3) := by decide +kernel
theorem d_Mo_next_98 : decode (yB Y_Mo_next) 98 = .ok (.aload_n 0, 1) := by decide +kernel
theorem d_Mo_next_99 : decode (yB Y_Mo_next) 99 = .ok (.getfield 263, 3) := by decide +kernel
theorem d_Mo_next_102 : decode (yB Y_Mo_next) 102 = .ok (.iaload, 1) := by decide +kernel
theorem d_Mo_next_103 : decode (yB Y_Mo_next) 103 = .ok (.invokestatic 273, 3) := by decide +kernel
theorem d_Mo_next_106 : decode (yB Y_Mo_next) 106 = .ok (.ifCond .eq 7, 3) := by decide +kernel
theorem d_Mo_next_109 : decode (yB Y_Mo_next) 109 = .ok (.iconst 2, 1) := by decide +kernel
theorem d_Mo_next_110 : decode (yB Y_Mo_next) 110 = .ok (.goto 4, 3) := by decide +kernel
theorem d_Mo_next_113 : decode (yB Y_Mo_next) 113 = .ok (.iconst 3, 1) := by decide +kernel
theorem d_Mo_next_114 : decode (yB Y_Mo_next) 114 = .ok (.putfield 276, 3) := by decide +kernel
theorem d_Mo_next_117 : decode (yB Y_Mo_next) 117 = .ok (.aload_n 0, 1) := by decide +kernel
theorem d_Mo_next_118 : decode (yB Y_Mo_next) 118 = .ok (.getfield 276, 3) := by decide +kernel
theorem d_Mo_next_121 : decode (yB Y_Mo_next) 121 = .ok (.iconst 3, 1) := by decide +kernel
theorem d_Mo_next_122 : decode (yB Y_Mo_next) 122 = .ok (.if_icmp .ne 27, 3) := by decide +kernel
theorem d_Mo_next_125 : decode (yB Y_Mo_next) 125 = .ok (.aload_n 0, 1) := by decide +kernel
theorem d_Mo_next_126 : decode (yB Y_Mo_next) 126 = .ok (.aload_n 0, 1) := by decide +kernel
theorem d_Mo_next_127 : decode (yB Y_Mo_next) 127 = .ok (.getfield 35, 3) := by decide +kernel
theorem d_Mo_next_130 : decode (yB Y_Mo_next) 130 = .ok (.aload_n 0, 1) := by decide +kernel
theorem d_Mo_next_131 : decode (yB Y_Mo_next) 131 = .ok (.getfield 263, 3) := by decide +kernel
theorem d_Mo_next_134 : decode (yB Y_Mo_next) 134 = .ok (.iaload, 1) := by decide +kernel
theorem d_Mo_next_135 : decode (yB Y_Mo_next) 135 = .ok (.i2l, 1) := by decide +kernel
theorem d_Mo_next_136 : decode (yB Y_Mo_next) 136 = .ok (.putfield 266, 3) := by decide +kernel
theorem d_Mo_next_139 : decode (yB Y_Mo_next) 139 = .ok (.aload_n 0, 1) := by decide +kernel
theorem d_Mo_next_140 : decode (yB Y_Mo_next) 140 = .ok (.dup, 1) := by decide +kernel
theorem d_Mo_next_141 : decode (yB Y_Mo_next) 141 = .ok (.getfield 253, 3) := by decide +kernel
theorem d_Mo_next_144 : decode (yB Y_Mo_next) 144 = .ok (.iconst 1, 1) := by decide +kernel
theorem d_Mo_next_145 : decode (yB Y_Mo_next) 145 = .ok (.iadd, 1) := by decide +kernel
theorem d_Mo_next_146 : decode (yB Y_Mo_next) 146 = .ok (.putfield 253, 3) := by decide +kernel
theorem d_Mo_next_149 : decode (yB Y_Mo_next) 149 = .ok (.aload_n 0, 1) := by decide +kernel
theorem d_Mo_next_150 : decode (yB Y_Mo_next) 150 = .ok (.getfield 276, 3) := by decide +kernel
theorem d_Mo_next_153 : decode (yB Y_Mo_next) 153 = .ok (.iconst 1, 1) := by decide +kernel
theorem d_Mo_next_154 : decode (yB Y_Mo_next) 154 = .ok (.if_icmp .ne 89, 3) := by decide +kernel
theorem d_Mo_next_157 : decode (yB Y_Mo_next) 157 = .ok (.aload_n 0, 1) := by decide +kernel
theorem d_Mo_next_158 : decode (yB Y_Mo_next) 158 = .ok (.getfield 253, 3) := by decide +kernel
theorem d_Mo_next_161 : decode (yB Y_Mo_next) 161 = .ok (.aload_n 0, 1) := by decide +kernel
theorem d_Mo_next_162 : decode (yB Y_Mo_next) 162 = .ok (.getfield 244, 3) := by decide +kernel
theorem d_Mo_next_165 : decode (yB Y_Mo_next) 165 = .ok (.if_icmp .ge 78, 3) := by decide +kernel
theorem d_Mo_next_168 : decode (yB Y_Mo_next) 168 = .ok (.aload_n 0, 1) := by decide +kernel
theorem d_Mo_next_169 : decode (yB Y_Mo_next) 169 = .ok (.getfield 35, 3) := by decide +kernel
theorem d_Mo_next_172 : decode (yB Y_Mo_next) 172 = .ok (.aload_n 0, 1) := by decide +kernel
theorem d_Mo_next_173 : decode (yB Y_Mo_next) 173 = .ok (.getfield 253, 3) := by decide +kernel
theorem d_Mo_next_176 : decode (yB Y_Mo_next) 176 = .ok (.iaload, 1) := by decide +kernel
theorem d_Mo_next_177 : decode (yB Y_Mo_next) 177 = .ok (.invokestatic 270, 3) := by decide +kernel
theorem d_Mo_next_180 : decode (yB Y_Mo_next) 180 = .ok (.ifCond .eq 63, 3) := by decide +kernel
theorem d_Mo_next_183 : decode (yB Y_Mo_next) 183 = .ok (.aload_n 0, 1) := by decide +kernel
theorem d_Mo_next_184 : decode (yB Y_Mo_next) 184 = .ok (.aload_n 0, 1) := by decide +kernel
theorem d_Mo_next_185 : decode (yB Y_Mo_next) 185 = .ok (.getfield 253, 3) := by decide +kernel
theorem d_Mo_next_188 : decode (yB Y_Mo_next) 188 = .ok (.aload_n 0, 1) := by decide +kernel
theorem d_Mo_next_189 : decode (yB Y_Mo_next) 189 = .ok (.getfield 263, 3) := by decide +kernel
theorem d_Mo_next_192 : decode (yB Y_Mo_next) 192 = .ok (.isub, 1) := by decide +kernel
theorem d_Mo_next_193 : decode (yB Y_Mo_next) 193 = .ok (.bipush 10, 2) := by decide +kernel
theorem d_Mo_next_195 : decode (yB Y_Mo_next) 195 = .ok (.if_icmp .ge 29, 3) := by decide +kernel
theorem d_Mo_next_198 : decode (yB Y_Mo_next) 198 = .ok (.aload_n 0, 1) := by decide +kernel
theorem d_Mo_next_199 : decode (yB Y_Mo_next) 199 = .ok (.getfield 266, 3) := by decide +kernel
theorem d_Mo_next_202 : decode (yB Y_Mo_next) 202 = .ok (.ldc2_w 279, 3) := by decide +kernel
theorem d_Mo_next_205 : decode (yB Y_Mo_next) 205 = .ok (.lmul, 1) := by decide +kernel
theorem d_Mo_next_206 : decode (yB Y_Mo_next) 206 = .ok (.aload_n 0, 1) := by decide +kernel
theorem d_Mo_next_207 : decode (yB Y_Mo_next) 207 = .ok (.getfield 35, 3) := by decide +kernel
theorem d_Mo_next_210 : decode (yB Y_Mo_next) 210 = .ok (.aload_n 0, 1) := by decide +kernel
theorem d_Mo_next_211 : decode (yB Y_Mo_next) 211 = .ok (.getfield 253, 3) := by decide +kernel
theorem d_Mo_next_214 : decode (yB Y_Mo_next) 214 = .ok (.iaload, 1) := by decide +kernel
theorem d_Mo_next_215 : decode (yB Y_Mo_next) 215 = .ok (.i2l, 1) := by decide +kernel
theorem d_Mo_next_216 : decode (yB Y_Mo_next) 216 = .ok (.ladd, 1) := by decide +kernel
theorem d_Mo_next_217 : decode (yB Y_Mo_next) 217 = .ok (.ldc2_w 281, 3) := by decide +kernel
theorem d_Mo_next_220 : decode (yB Y_Mo_next) 220 = .ok (.lsub, 1) := by decide +kernel
theorem d_Mo_next_221 : decode (yB Y_Mo_next) 221 = .ok (.goto 6, 3) := by decide +kernel
theorem d_Mo_next_224 : decode (yB Y_Mo_next) 224 = .ok (.ldc2_w 228, 3) := by decide +kernel
theorem d_Mo_next_227 : decode (yB Y_Mo_next) 227 = .ok (.putfield 266, 3) := by decide +kernel
theorem d_Mo_next_230 : decode (yB Y_Mo_next) 230 = .ok (.aload_n 0, 1) := by decide +kernel
theorem d_Mo_next_231 : decode (yB Y_Mo_next) 231 = .ok (.dup, 1) := by decide +kernel
theorem d_Mo_next_232 : decode (yB Y_Mo_next) 232 = .ok (.getfield 253, 3) := by decide +kernel
theorem d_Mo_next_235 : decode (yB Y_Mo_next) 235 = .ok (.iconst 1, 1) := by decide +kernel
theorem d_Mo_next_236 : decode (yB Y_Mo_next) 236 = .ok (.iadd, 1) := by decide +kernel
theorem d_Mo_next_237 : decode (yB Y_Mo_next) 237 = .ok (.putfield 253, 3) := by decide +kernel
theorem d_Mo_next_240 : decode (yB Y_Mo_next) 240 = .ok (.goto (-91), 3) := by decide +kernel
theorem d_Mo_next_243 : decode (yB Y_Mo_next) 243 = .ok (.aload_n 0, 1) := by decide +kernel
theorem d_Mo_next_244 : decode (yB Y_Mo_next) 244 = .ok (.getfield 276, 3) := by decide +kernel
theorem d_Mo_next_247 : decode (yB Y_Mo_next) 247 = .ok (.iconst 2, 1) := by decide +kernel
theorem d_Mo_next_248 : decode (yB Y_Mo_next) 248 = .ok (.if_icmp .ne 87, 3) := by decide +kernel
theorem d_Mo_next_251 : decode (yB Y_Mo_next) 251 = .ok (.aload_n 0, 1) := by decide +kernel
theorem d_Mo_next_252 : decode (yB Y_Mo_next) 252 = .ok (.getfield 253, 3) := by decide +kernel
theorem d_Mo_next_255 : decode (yB Y_Mo_next) 255 = .ok (.aload_n 0, 1) := by decide +kernel
theorem d_Mo_next_256 : decode (yB Y_Mo_next) 256 = .ok (.getfield 244, 3) := by decide +kernel
theorem d_Mo_next_259 : decode (yB Y_Mo_next) 259 = .ok (.if_icmp .ge 76, 3) := by decide +kernel
theorem d_Mo_next_262 : decode (yB Y_Mo_next) 262 = .ok (.aload_n 0, 1) := by decide +kernel
theorem d_Mo_next_263 : decode (yB Y_Mo_next) 263 = .ok (.getfield 35, 3) := by decide +kernel
theorem d_Mo_next_266 : decode (yB Y_Mo_next) 266 = .ok (.aload_n 0, 1) := by decide +kernel
theorem d_Mo_next_267 : decode (yB Y_Mo_next) 267 = .ok (.getfield 253, 3) := by decide +kernel
theorem d_Mo_next_270 : decode (yB Y_Mo_next) 270 = .ok (.iaload, 1) := by decide +kernel
theorem d_Mo_next_271 : decode (yB Y_Mo_next) 271 = .ok (.invokestatic 273, 3) := by decide +kernel
theorem d_Mo_next_274 : decode (yB Y_Mo_next) 274 = .ok (.ifCond .eq 61, 3) := by decide +kernel
theorem d_Mo_next_277 : decode (yB Y_Mo_next) 277 = .ok (.aload_n 0, 1) := by decide +kernel
theorem d_Mo_next_278 : decode (yB Y_Mo_next) 278 = .ok (.aload_n 0, 1) := by decide +kernel
theorem d_Mo_next_279 : decode (yB Y_Mo_next) 279 = .ok (.getfield 266, 3) := by decide +kernel
theorem d_Mo_next_282 : decode (yB Y_Mo_next) 282 = .ok (.ldc2_w 283, 3) := by decide +kernel
theorem d_Mo_next_285 : decode (yB Y_Mo_next) 285 = .ok (.lcmp, 1) := by decide +kernel
theorem d_Mo_next_286 : decode (yB Y_Mo_next) 286 = .ok (.ifCond .le 10, 3) := by decide +kernel
theorem d_Mo_next_289 : decode (yB Y_Mo_next) 289 = .ok (.aload_n 0, 1) := by decide +kernel
theorem d_Mo_next_290 : decode (yB Y_Mo_next) 290 = .ok (.getfield 266, 3) := by decide +kernel
theorem d_Mo_next_293 : decode (yB Y_Mo_next) 293 = .ok (.goto 26, 3) := by decide +kernel
theorem d_Mo_next_296 : decode (yB Y_Mo_next) 296 = .ok (.aload_n 0, 1) := by decide +kernel
theorem d_Mo_next_297 : decode (yB Y_Mo_next) 297 = .ok (.getfield 266, 3) := by decide +kernel
theorem d_Mo_next_300 : decode (yB Y_Mo_next) 300 = .ok (.ldc2_w 239, 3) := by decide +kernel
theorem d_Mo_next_303 : decode (yB Y_Mo_next) 303 = .ok (.lmul, 1) := by decide +kernel
theorem d_Mo_next_304 : decode (yB Y_Mo_next) 304 = .ok (.aload_n 0, 1) := by decide +kernel
theorem d_Mo_next_305 : decode (yB Y_Mo_next) 305 = .ok (.getfield 35, 3) := by decide +kernel
theorem d_Mo_next_308 : decode (yB Y_Mo_next) 308 = .ok (.aload_n 0, 1) := by decide +kernel
theorem d_Mo_next_309 : decode (yB Y_Mo_next) 309 = .ok (.getfield 253, 3) := by decide +kernel
theorem d_Mo_next_312 : decode (yB Y_Mo_next) 312 = .ok (.iaload, 1) := by decide +kernel
theorem d_Mo_next_313 : decode (yB Y_Mo_next) 313 = .ok (.i2l, 1) := by decide +kernel
theorem d_Mo_next_314 : decode (yB Y_Mo_next) 314 = .ok (.ladd, 1) := by decide +kernel
theorem d_Mo_next_315 : decode (yB Y_Mo_next) 315 = .ok (.ldc2_w 285, 3) := by decide +kernel
theorem d_Mo_next_318 : decode (yB Y_Mo_next) 318 = .ok (.lsub, 1) := by decide +kernel
theorem d_Mo_next_319 : decode (yB Y_Mo_next) 319 = .ok (.putfield 266, 3) := by decide +kernel
theorem d_Mo_next_322 : decode (yB Y_Mo_next) 322 = .ok (.aload_n 0, 1) := by decide +kernel
theorem d_Mo_next_323 : decode (yB Y_Mo_next) 323 = .ok (.dup, 1) := by decide +kernel
theorem d_Mo_next_324 : decode (yB Y_Mo_next) 324 = .ok (.getfield 253, 3) := by decide +kernel
theorem d_Mo_next_327 : decode (yB Y_Mo_next) 327 = .ok (.iconst 1, 1) := by decide +kernel
theorem d_Mo_next_328 : decode (yB Y_Mo_next) 328 = .ok (.iadd, 1) := by decide +kernel
theorem d_Mo_next_329 : decode (yB Y_Mo_next) 329 = .ok (.putfield 253, 3) := by decide +kernel
theorem d_Mo_next_332 : decode (yB Y_Mo_next) 332 = .ok (.goto (-89), 3) := by decide +kernel
theorem d_Mo_next_335 : decode (yB Y_Mo_next) 335 = .ok (.return_, 1) := by decide +kernel
def F_Mo_next_b227 (n : Nat) (E : zE) (S : zS) (r149 : Nat × zH → Option (zH)) (a0 : Nat) (t0 : Int64) (u1 : Nat) (M : zH) : Option (zH) :=
  (zpJ S M u1 11 17 t0).bind fun m1 =>
  (zgI S m1 a0 11 15).bind fun v2 =>
  (zpI S m1 a0 11 15 (v2 + 1)).bind fun m3 =>
  r149 (a0, m3)
def F_Mo_next_b319 (n : Nat) (E : zE) (S : zS) (r243 : Nat × zH → Option (zH)) (a0 : Nat) (t0 : Int64) (u1 : Nat) (M : zH) : Option (zH) :=
  (zpJ S M u1 11 17 t0).bind fun m4 =>
  (zgI S m4 a0 11 15).bind fun v5 =>
  (zpI S m4 a0 11 15 (v5 + 1)).bind fun m6 =>
  r243 (a0, m6)
def F_Mo_next_L243 (n : Nat) (E : zE) (S : zS) (r243 : Nat × zH → Option (zH)) (a0 : Nat) (M : zH) : Option (zH) :=
  (zgI S M a0 11 16).bind fun v7 =>
  if v7 = 2 then
    (zgI S M a0 11 15).bind fun v9 =>
    (zgI S M a0 11 13).bind fun v10 =>
    if v10 ≤ v9 then
      some (M)
    else
      (zgR S a0 11 12).bind fun b12 =>
      (zgI S M a0 11 15).bind fun v13 =>
      (zldI S M b12 v13).bind fun v14 =>
      (F_Mo_isDigit n E S v14 M).bind fun q15 =>
      if q15.1 = true then
        (zgJ S q15.2 a0 11 17).bind fun v17 =>
        if v17 ≤ 1000000 then
          (zgJ S q15.2 a0 11 17).bind fun v19 =>
          (zgI S q15.2 a0 11 15).bind fun v20 =>
          (zldI S q15.2 b12 v20).bind fun v21 =>
          F_Mo_next_b319 n E S r243 a0 (((v19 * 10) + v21.toInt64) - 48) a0 q15.2
        else
          (zgJ S q15.2 a0 11 17).bind fun v22 =>
          F_Mo_next_b319 n E S r243 a0 v22 a0 q15.2
      else
        some (q15.2)
  else
    some (M)
def F_Mo_next_b243 (n : Nat) (E : zE) (S : zS) : Nat × zH → Option (zH) := zfix (fun r243 s => F_Mo_next_L243 n E S r243 s.1 s.2) n
def F_Mo_next_L149 (n : Nat) (E : zE) (S : zS) (r149 : Nat × zH → Option (zH)) (a0 : Nat) (M : zH) : Option (zH) :=
  (zgI S M a0 11 16).bind fun v23 =>
  if v23 = 1 then
    (zgI S M a0 11 15).bind fun v25 =>
    (zgI S M a0 11 13).bind fun v26 =>
    if v26 ≤ v25 then
      F_Mo_next_b243 n E S (a0, M)
    else
      (zgR S a0 11 12).bind fun b28 =>
      (zgI S M a0 11 15).bind fun v29 =>
      (zldI S M b28 v29).bind fun v30 =>
      (F_Mo_isSmall n E S v30 M).bind fun q31 =>
      if q31.1 = true then
        (zgI S q31.2 a0 11 15).bind fun v33 =>
        (zgI S q31.2 a0 11 14).bind fun v34 =>
        if 10 ≤ (v33 - v34) then
          F_Mo_next_b227 n E S r149 a0 (-1) a0 q31.2
        else
          (zgJ S q31.2 a0 11 17).bind fun v36 =>
          (zgI S q31.2 a0 11 15).bind fun v37 =>
          (zldI S q31.2 b28 v37).bind fun v38 =>
          F_Mo_next_b227 n E S r149 a0 (((v36 * 32) + v38.toInt64) - 96) a0 q31.2
      else
        F_Mo_next_b243 n E S (a0, q31.2)
  else
    F_Mo_next_b243 n E S (a0, M)
def F_Mo_next_b149 (n : Nat) (E : zE) (S : zS) : Nat × zH → Option (zH) := zfix (fun r149 s => F_Mo_next_L149 n E S r149 s.1 s.2) n
def F_Mo_next_b114 (n : Nat) (E : zE) (S : zS) (a0 : Nat) (s0 : Int32) (u1 : Nat) (M : zH) : Option (zH) :=
  (zpI S M u1 11 16 s0).bind fun m39 =>
  (zgI S m39 a0 11 16).bind fun v40 =>
  if v40 = 3 then
    (zgR S a0 11 12).bind fun b42 =>
    (zgI S m39 a0 11 14).bind fun v43 =>
    (zldI S m39 b42 v43).bind fun v44 =>
    (zpJ S m39 a0 11 17 v44.toInt64).bind fun m45 =>
    (zgI S m45 a0 11 15).bind fun v46 =>
    (zpI S m45 a0 11 15 (v46 + 1)).bind fun m47 =>
    F_Mo_next_b149 n E S (a0, m47)
  else
    F_Mo_next_b149 n E S (a0, m39)
def F_Mo_next_b46 (n : Nat) (E : zE) (S : zS) (a0 : Nat) (M : zH) : Option (zH) :=
  (zgI S M a0 11 14).bind fun v48 =>
  (zpI S M a0 11 15 v48).bind fun m49 =>
  (zpJ S m49 a0 11 17 0).bind fun m50 =>
  (zgI S m50 a0 11 14).bind fun v51 =>
  (zgI S m50 a0 11 13).bind fun v52 =>
  if v51 = v52 then
    F_Mo_next_b114 n E S a0 0 a0 m50
  else
    (zgR S a0 11 12).bind fun b54 =>
    (zgI S m50 a0 11 14).bind fun v55 =>
    (zldI S m50 b54 v55).bind fun v56 =>
    (F_Mo_isSmall n E S v56 m50).bind fun q57 =>
    if q57.1 = true then
      F_Mo_next_b114 n E S a0 1 a0 q57.2
    else
      (zgI S q57.2 a0 11 14).bind fun v59 =>
      (zldI S q57.2 b54 v59).bind fun v60 =>
      (F_Mo_isDigit n E S v60 q57.2).bind fun q61 =>
      if q61.1 = true then
        F_Mo_next_b114 n E S a0 2 a0 q61.2
      else
        F_Mo_next_b114 n E S a0 3 a0 q61.2
def F_Mo_next_L8 (n : Nat) (E : zE) (S : zS) (r8 : Nat × zH → Option (zH)) (a0 : Nat) (M : zH) : Option (zH) :=
  (zgI S M a0 11 14).bind fun v63 =>
  (zgI S M a0 11 13).bind fun v64 =>
  if v64 ≤ v63 then
    F_Mo_next_b46 n E S a0 M
  else
    (zgR S a0 11 12).bind fun b66 =>
    (zgI S M a0 11 14).bind fun v67 =>
    (zldI S M b66 v67).bind fun v68 =>
    if v68 = 32 then
      (zgI S M a0 11 14).bind fun v70 =>
      (zpI S M a0 11 14 (v70 + 1)).bind fun m71 =>
      r8 (a0, m71)
    else
      F_Mo_next_b46 n E S a0 M
def F_Mo_next_b8 (n : Nat) (E : zE) (S : zS) : Nat × zH → Option (zH) := zfix (fun r8 s => F_Mo_next_L8 n E S r8 s.1 s.2) n
def F_Mo_next (n : Nat) (E : zE) (S : zS) (a0 : Nat) (M : zH) : Option (zH) :=
  (zgI S M a0 11 15).bind fun v72 =>
  (zpI S M a0 11 14 v72).bind fun m73 =>
  F_Mo_next_b8 n E S (a0, m73)
theorem K_Mo_next_b227 (n : Nat) (E : zE) (S : zS) (r149 : Nat × zH → Option (zH)) (a0 : Nat) (t0 : Int64) (u1 : Nat) (M : zH) (M' : zH) (hr149 : ∀ (a0 : Nat) (M : zH), r149 (a0, M) = some M' → zG E Y_Mo_next (none, S, M') 149 [(0, .ref a0)] [] S M 0 0) (h : F_Mo_next_b227 n E S r149 a0 t0 u1 M = some M') : zG E Y_Mo_next (none, S, M') 227 [(0, .ref a0)] [.long t0, .ref u1] S M 0 0 := by
  unfold F_Mo_next_b227 at h
  obtain ⟨m1, em1, h⟩ := zbind h
  refine zo_putJ 230 zkd_11 17 d_Mo_next_227 em1 rfl rfl rfl tw_1248 rfl ?_
  refine zi_aload_n 0 d_Mo_next_230 rfl ?_
  refine zi_dup d_Mo_next_231 rfl ?_
  obtain ⟨v2, ev2, h⟩ := zbind h
  refine zo_getI 235 zkd_11 15 d_Mo_next_232 ev2 rfl tw_1246 rfl ?_
  refine zi_iconst 1 d_Mo_next_235 rfl ?_
  refine zi_iadd d_Mo_next_236 ?_
  obtain ⟨m3, em3, h⟩ := zbind h
  refine zo_putI 240 zkd_11 15 d_Mo_next_237 em3 rfl rfl rfl tw_1246 rfl ?_
  refine zi_goto (tgt := 149) d_Mo_next_240 rfl ?_
  refine zi_lo [(0, .ref a0)] [0] rfl ?_
  exact hr149 a0 m3 h
theorem K_Mo_next_b319 (n : Nat) (E : zE) (S : zS) (r243 : Nat × zH → Option (zH)) (a0 : Nat) (t0 : Int64) (u1 : Nat) (M : zH) (M' : zH) (hr243 : ∀ (a0 : Nat) (M : zH), r243 (a0, M) = some M' → zG E Y_Mo_next (none, S, M') 243 [(0, .ref a0)] [] S M 0 0) (h : F_Mo_next_b319 n E S r243 a0 t0 u1 M = some M') : zG E Y_Mo_next (none, S, M') 319 [(0, .ref a0)] [.long t0, .ref u1] S M 0 0 := by
  unfold F_Mo_next_b319 at h
  obtain ⟨m4, em4, h⟩ := zbind h
  refine zo_putJ 322 zkd_11 17 d_Mo_next_319 em4 rfl rfl rfl tw_1248 rfl ?_
  refine zi_aload_n 0 d_Mo_next_322 rfl ?_
  refine zi_dup d_Mo_next_323 rfl ?_
  obtain ⟨v5, ev5, h⟩ := zbind h
  refine zo_getI 327 zkd_11 15 d_Mo_next_324 ev5 rfl tw_1246 rfl ?_
  refine zi_iconst 1 d_Mo_next_327 rfl ?_
  refine zi_iadd d_Mo_next_328 ?_
  obtain ⟨m6, em6, h⟩ := zbind h
  refine zo_putI 332 zkd_11 15 d_Mo_next_329 em6 rfl rfl rfl tw_1246 rfl ?_
  refine zi_goto (tgt := 243) d_Mo_next_332 rfl ?_
  refine zi_lo [(0, .ref a0)] [0] rfl ?_
  exact hr243 a0 m6 h
theorem K_Mo_next_L243 (n : Nat) (E : zE) (S : zS) (r243 : Nat × zH → Option (zH)) (a0 : Nat) (M : zH) (M' : zH) (hr243 : ∀ (a0 : Nat) (M : zH), r243 (a0, M) = some M' → zG E Y_Mo_next (none, S, M') 243 [(0, .ref a0)] [] S M 0 0) (h : F_Mo_next_L243 n E S r243 a0 M = some M') : zG E Y_Mo_next (none, S, M') 243 [(0, .ref a0)] [] S M 0 0 := by
  unfold F_Mo_next_L243 at h
  refine zi_aload_n 0 d_Mo_next_243 rfl ?_
  obtain ⟨v7, ev7, h⟩ := zbind h
  refine zo_getI 247 zkd_11 16 d_Mo_next_244 ev7 rfl tw_1247 rfl ?_
  refine zi_iconst 2 d_Mo_next_247 rfl ?_
  refine zi_icmp_ne (tgt := 335) d_Mo_next_248 rfl (fun c8 => ?_) (fun c8 => ?_)
  · rw [if_neg c8] at h
    cases h
    exact zo_ret d_Mo_next_335 (Nat.le_of_ble_eq_true rfl) (Nat.le_of_ble_eq_true rfl) rfl
  · rw [if_pos c8] at h
    refine zi_aload_n 0 d_Mo_next_251 rfl ?_
    obtain ⟨v9, ev9, h⟩ := zbind h
    refine zo_getI 255 zkd_11 15 d_Mo_next_252 ev9 rfl tw_1246 rfl ?_
    refine zi_aload_n 0 d_Mo_next_255 rfl ?_
    obtain ⟨v10, ev10, h⟩ := zbind h
    refine zo_getI 259 zkd_11 13 d_Mo_next_256 ev10 rfl tw_1244 rfl ?_
    refine zi_icmp_ge (tgt := 335) d_Mo_next_259 rfl (fun c11 => ?_) (fun c11 => ?_)
    · rw [if_pos c11] at h
      cases h
      exact zo_ret d_Mo_next_335 (Nat.le_of_ble_eq_true rfl) (Nat.le_of_ble_eq_true rfl) rfl
    · rw [if_neg c11] at h
      refine zi_aload_n 0 d_Mo_next_262 rfl ?_
      obtain ⟨b12, eb12, h⟩ := zbind h
      refine zo_getR 266 zkd_11 12 d_Mo_next_263 eb12 rfl tw_1243 rfl ?_
      refine zi_aload_n 0 d_Mo_next_266 rfl ?_
      obtain ⟨v13, ev13, h⟩ := zbind h
      refine zo_getI 270 zkd_11 15 d_Mo_next_267 ev13 rfl tw_1246 rfl ?_
      obtain ⟨v14, ev14, h⟩ := zbind h
      refine zo_iald 271 d_Mo_next_270 ev14 rfl ?_
      obtain ⟨q15, eq15, h⟩ := zbind h
      refine zo_stat (k' := 0) (n' := 0) 274 [.int v14] [] [.int (bI q15.1)] (C_Mo_isDigit n E S v14 M q15.1 q15.2 eq15) d_Mo_next_271 tw_1585 tw_1583 tw_1584 tw_13 dd_Mo_isDigit ⟨Nat.le_of_ble_eq_true rfl, Nat.le_of_ble_eq_true rfl, Nat.le_of_ble_eq_true rfl, Nat.le_of_ble_eq_true rfl⟩ (Nat.le_of_ble_eq_true rfl) rfl rfl rfl rfl ?_
      refine zo_ifeqB d_Mo_next_274 rfl 277 rfl (fun c16 => ?_) (fun c16 => ?_)
      · rw [if_neg c16] at h
        cases h
        exact zo_ret d_Mo_next_335 (Nat.le_of_ble_eq_true rfl) (Nat.le_of_ble_eq_true rfl) rfl
      · rw [if_pos c16] at h
        refine zi_aload_n 0 d_Mo_next_277 rfl ?_
        refine zi_aload_n 0 d_Mo_next_278 rfl ?_
        obtain ⟨v17, ev17, h⟩ := zbind h
        refine zo_getJ 282 zkd_11 17 d_Mo_next_279 ev17 rfl tw_1248 rfl ?_
        refine zi_ldc2 d_Mo_next_282 tw_1588 ?_
        refine zo_lc_le d_Mo_next_285 d_Mo_next_286 rfl 289 rfl (fun c18 => ?_) (fun c18 => ?_)
        · rw [if_pos c18] at h
          refine zi_aload_n 0 d_Mo_next_296 rfl ?_
          obtain ⟨v19, ev19, h⟩ := zbind h
          refine zo_getJ 300 zkd_11 17 d_Mo_next_297 ev19 rfl tw_1248 rfl ?_
          refine zi_ldc2 d_Mo_next_300 tw_1539 ?_
          refine zi_lmul d_Mo_next_303 ?_
          refine zi_aload_n 0 d_Mo_next_304 rfl ?_
          refine zo_getR 308 zkd_11 12 d_Mo_next_305 eb12 rfl tw_1243 rfl ?_
          refine zi_aload_n 0 d_Mo_next_308 rfl ?_
          obtain ⟨v20, ev20, h⟩ := zbind h
          refine zo_getI 312 zkd_11 15 d_Mo_next_309 ev20 rfl tw_1246 rfl ?_
          obtain ⟨v21, ev21, h⟩ := zbind h
          refine zo_iald 313 d_Mo_next_312 ev21 rfl ?_
          refine zi_i2l d_Mo_next_313 ?_
          refine zi_ladd d_Mo_next_314 ?_
          refine zi_ldc2 d_Mo_next_315 tw_1589 ?_
          refine zi_lsub d_Mo_next_318 ?_
          refine zi_lo [(0, .ref a0)] [0] rfl ?_
          exact K_Mo_next_b319 n E S r243 a0 (((v19 * 10) + v21.toInt64) - 48) a0 q15.2 M' hr243 h
        · rw [if_neg c18] at h
          refine zi_aload_n 0 d_Mo_next_289 rfl ?_
          obtain ⟨v22, ev22, h⟩ := zbind h
          refine zo_getJ 293 zkd_11 17 d_Mo_next_290 ev22 rfl tw_1248 rfl ?_
          refine zi_goto (tgt := 319) d_Mo_next_293 rfl ?_
          refine zi_lo [(0, .ref a0)] [0] rfl ?_
          exact K_Mo_next_b319 n E S r243 a0 v22 a0 q15.2 M' hr243 h
theorem K_Mo_next_b243 (n : Nat) (E : zE) (S : zS) (a0 : Nat) (M : zH) (M' : zH)  (h : F_Mo_next_b243 n E S (a0, M) = some M') : zG E Y_Mo_next (none, S, M') 243 [(0, .ref a0)] [] S M 0 0 := by
  have key : ∀ (k : Nat) (a0 : Nat) (M : zH), zfix (fun r243 s => F_Mo_next_L243 n E S r243 s.1 s.2) k (a0, M) = some M' → zG E Y_Mo_next (none, S, M') 243 [(0, .ref a0)] [] S M 0 0 := by
    intro k
    induction k with
    | zero => intro a0 M h; cases h
    | succ k ih => intro a0 M h; exact K_Mo_next_L243 n E S _ a0 M M'  (fun a0 M h => ih a0 M h) h
  exact key n a0 M h
theorem K_Mo_next_L149 (n : Nat) (E : zE) (S : zS) (r149 : Nat × zH → Option (zH)) (a0 : Nat) (M : zH) (M' : zH) (hr149 : ∀ (a0 : Nat) (M : zH), r149 (a0, M) = some M' → zG E Y_Mo_next (none, S, M') 149 [(0, .ref a0)] [] S M 0 0) (h : F_Mo_next_L149 n E S r149 a0 M = some M') : zG E Y_Mo_next (none, S, M') 149 [(0, .ref a0)] [] S M 0 0 := by
  unfold F_Mo_next_L149 at h
  refine zi_aload_n 0 d_Mo_next_149 rfl ?_
  obtain ⟨v23, ev23, h⟩ := zbind h
  refine zo_getI 153 zkd_11 16 d_Mo_next_150 ev23 rfl tw_1247 rfl ?_
  refine zi_iconst 1 d_Mo_next_153 rfl ?_
  refine zi_icmp_ne (tgt := 243) d_Mo_next_154 rfl (fun c24 => ?_) (fun c24 => ?_)
  · rw [if_neg c24] at h
    refine zi_lo [(0, .ref a0)] [0] rfl ?_
    exact K_Mo_next_b243 n E S a0 M M'  h
  · rw [if_pos c24] at h
    refine zi_aload_n 0 d_Mo_next_157 rfl ?_
    obtain ⟨v25, ev25, h⟩ := zbind h
    refine zo_getI 161 zkd_11 15 d_Mo_next_158 ev25 rfl tw_1246 rfl ?_
    refine zi_aload_n 0 d_Mo_next_161 rfl ?_
    obtain ⟨v26, ev26, h⟩ := zbind h
    refine zo_getI 165 zkd_11 13 d_Mo_next_162 ev26 rfl tw_1244 rfl ?_
    refine zi_icmp_ge (tgt := 243) d_Mo_next_165 rfl (fun c27 => ?_) (fun c27 => ?_)
    · rw [if_pos c27] at h
      refine zi_lo [(0, .ref a0)] [0] rfl ?_
      exact K_Mo_next_b243 n E S a0 M M'  h
    · rw [if_neg c27] at h
      refine zi_aload_n 0 d_Mo_next_168 rfl ?_
      obtain ⟨b28, eb28, h⟩ := zbind h
      refine zo_getR 172 zkd_11 12 d_Mo_next_169 eb28 rfl tw_1243 rfl ?_
      refine zi_aload_n 0 d_Mo_next_172 rfl ?_
      obtain ⟨v29, ev29, h⟩ := zbind h
      refine zo_getI 176 zkd_11 15 d_Mo_next_173 ev29 rfl tw_1246 rfl ?_
      obtain ⟨v30, ev30, h⟩ := zbind h
      refine zo_iald 177 d_Mo_next_176 ev30 rfl ?_
      obtain ⟨q31, eq31, h⟩ := zbind h
      refine zo_stat (k' := 0) (n' := 0) 180 [.int v30] [] [.int (bI q31.1)] (C_Mo_isSmall n E S v30 M q31.1 q31.2 eq31) d_Mo_next_177 tw_1582 tw_1580 tw_1581 tw_13 dd_Mo_isSmall ⟨Nat.le_of_ble_eq_true rfl, Nat.le_of_ble_eq_true rfl, Nat.le_of_ble_eq_true rfl, Nat.le_of_ble_eq_true rfl⟩ (Nat.le_of_ble_eq_true rfl) rfl rfl rfl rfl ?_
      refine zo_ifeqB d_Mo_next_180 rfl 183 rfl (fun c32 => ?_) (fun c32 => ?_)
      · rw [if_neg c32] at h
        refine zi_lo [(0, .ref a0)] [0] rfl ?_
        exact K_Mo_next_b243 n E S a0 q31.2 M'  h
      · rw [if_pos c32] at h
        refine zi_aload_n 0 d_Mo_next_183 rfl ?_
        refine zi_aload_n 0 d_Mo_next_184 rfl ?_
        obtain ⟨v33, ev33, h⟩ := zbind h
        refine zo_getI 188 zkd_11 15 d_Mo_next_185 ev33 rfl tw_1246 rfl ?_
        refine zi_aload_n 0 d_Mo_next_188 rfl ?_
        obtain ⟨v34, ev34, h⟩ := zbind h
        refine zo_getI 192 zkd_11 14 d_Mo_next_189 ev34 rfl tw_1245 rfl ?_
        refine zi_isub d_Mo_next_192 ?_
        refine zi_bipush 10 d_Mo_next_193 rfl ?_
        refine zi_icmp_ge (tgt := 224) d_Mo_next_195 rfl (fun c35 => ?_) (fun c35 => ?_)
        · rw [if_pos c35] at h
          refine zi_ldc2 d_Mo_next_224 tw_1449 ?_
          refine zi_lo [(0, .ref a0)] [0] rfl ?_
          exact K_Mo_next_b227 n E S r149 a0 (-1) a0 q31.2 M' hr149 h
        · rw [if_neg c35] at h
          refine zi_aload_n 0 d_Mo_next_198 rfl ?_
          obtain ⟨v36, ev36, h⟩ := zbind h
          refine zo_getJ 202 zkd_11 17 d_Mo_next_199 ev36 rfl tw_1248 rfl ?_
          refine zi_ldc2 d_Mo_next_202 tw_1586 ?_
          refine zi_lmul d_Mo_next_205 ?_
          refine zi_aload_n 0 d_Mo_next_206 rfl ?_
          refine zo_getR 210 zkd_11 12 d_Mo_next_207 eb28 rfl tw_1243 rfl ?_
          refine zi_aload_n 0 d_Mo_next_210 rfl ?_
          obtain ⟨v37, ev37, h⟩ := zbind h
          refine zo_getI 214 zkd_11 15 d_Mo_next_211 ev37 rfl tw_1246 rfl ?_
          obtain ⟨v38, ev38, h⟩ := zbind h
          refine zo_iald 215 d_Mo_next_214 ev38 rfl ?_
          refine zi_i2l d_Mo_next_215 ?_
          refine zi_ladd d_Mo_next_216 ?_
          refine zi_ldc2 d_Mo_next_217 tw_1587 ?_
          refine zi_lsub d_Mo_next_220 ?_
          refine zi_goto (tgt := 227) d_Mo_next_221 rfl ?_
          refine zi_lo [(0, .ref a0)] [0] rfl ?_
          exact K_Mo_next_b227 n E S r149 a0 (((v36 * 32) + v38.toInt64) - 96) a0 q31.2 M' hr149 h
theorem K_Mo_next_b149 (n : Nat) (E : zE) (S : zS) (a0 : Nat) (M : zH) (M' : zH)  (h : F_Mo_next_b149 n E S (a0, M) = some M') : zG E Y_Mo_next (none, S, M') 149 [(0, .ref a0)] [] S M 0 0 := by
  have key : ∀ (k : Nat) (a0 : Nat) (M : zH), zfix (fun r149 s => F_Mo_next_L149 n E S r149 s.1 s.2) k (a0, M) = some M' → zG E Y_Mo_next (none, S, M') 149 [(0, .ref a0)] [] S M 0 0 := by
    intro k
    induction k with
    | zero => intro a0 M h; cases h
    | succ k ih => intro a0 M h; exact K_Mo_next_L149 n E S _ a0 M M'  (fun a0 M h => ih a0 M h) h
  exact key n a0 M h
theorem K_Mo_next_b114 (n : Nat) (E : zE) (S : zS) (a0 : Nat) (s0 : Int32) (u1 : Nat) (M : zH) (M' : zH)  (h : F_Mo_next_b114 n E S a0 s0 u1 M = some M') : zG E Y_Mo_next (none, S, M') 114 [(0, .ref a0)] [.int s0, .ref u1] S M 0 0 := by
  unfold F_Mo_next_b114 at h
  obtain ⟨m39, em39, h⟩ := zbind h
  refine zo_putI 117 zkd_11 16 d_Mo_next_114 em39 rfl rfl rfl tw_1247 rfl ?_
  refine zi_aload_n 0 d_Mo_next_117 rfl ?_
  obtain ⟨v40, ev40, h⟩ := zbind h
  refine zo_getI 121 zkd_11 16 d_Mo_next_118 ev40 rfl tw_1247 rfl ?_
  refine zi_iconst 3 d_Mo_next_121 rfl ?_
  refine zi_icmp_ne (tgt := 149) d_Mo_next_122 rfl (fun c41 => ?_) (fun c41 => ?_)
  · rw [if_neg c41] at h
    refine zi_lo [(0, .ref a0)] [0] rfl ?_
    exact K_Mo_next_b149 n E S a0 m39 M'  h
  · rw [if_pos c41] at h
    refine zi_aload_n 0 d_Mo_next_125 rfl ?_
    refine zi_aload_n 0 d_Mo_next_126 rfl ?_
    obtain ⟨b42, eb42, h⟩ := zbind h
    refine zo_getR 130 zkd_11 12 d_Mo_next_127 eb42 rfl tw_1243 rfl ?_
    refine zi_aload_n 0 d_Mo_next_130 rfl ?_
    obtain ⟨v43, ev43, h⟩ := zbind h
    refine zo_getI 134 zkd_11 14 d_Mo_next_131 ev43 rfl tw_1245 rfl ?_
    obtain ⟨v44, ev44, h⟩ := zbind h
    refine zo_iald 135 d_Mo_next_134 ev44 rfl ?_
    refine zi_i2l d_Mo_next_135 ?_
    obtain ⟨m45, em45, h⟩ := zbind h
    refine zo_putJ 139 zkd_11 17 d_Mo_next_136 em45 rfl rfl rfl tw_1248 rfl ?_
    refine zi_aload_n 0 d_Mo_next_139 rfl ?_
    refine zi_dup d_Mo_next_140 rfl ?_
    obtain ⟨v46, ev46, h⟩ := zbind h
    refine zo_getI 144 zkd_11 15 d_Mo_next_141 ev46 rfl tw_1246 rfl ?_
    refine zi_iconst 1 d_Mo_next_144 rfl ?_
    refine zi_iadd d_Mo_next_145 ?_
    obtain ⟨m47, em47, h⟩ := zbind h
    refine zo_putI 149 zkd_11 15 d_Mo_next_146 em47 rfl rfl rfl tw_1246 rfl ?_
    refine zi_lo [(0, .ref a0)] [0] rfl ?_
    exact K_Mo_next_b149 n E S a0 m47 M'  h
theorem K_Mo_next_b46 (n : Nat) (E : zE) (S : zS) (a0 : Nat) (M : zH) (M' : zH)  (h : F_Mo_next_b46 n E S a0 M = some M') : zG E Y_Mo_next (none, S, M') 46 [(0, .ref a0)] [] S M 0 0 := by
  unfold F_Mo_next_b46 at h
  refine zi_aload_n 0 d_Mo_next_46 rfl ?_
  refine zi_aload_n 0 d_Mo_next_47 rfl ?_
  obtain ⟨v48, ev48, h⟩ := zbind h
  refine zo_getI 51 zkd_11 14 d_Mo_next_48 ev48 rfl tw_1245 rfl ?_
  obtain ⟨m49, em49, h⟩ := zbind h
  refine zo_putI 54 zkd_11 15 d_Mo_next_51 em49 rfl rfl rfl tw_1246 rfl ?_
  refine zi_aload_n 0 d_Mo_next_54 rfl ?_
  refine zi_lconst 0 d_Mo_next_55 rfl ?_
  obtain ⟨m50, em50, h⟩ := zbind h
  refine zo_putJ 59 zkd_11 17 d_Mo_next_56 em50 rfl rfl rfl tw_1248 rfl ?_
  refine zi_aload_n 0 d_Mo_next_59 rfl ?_
  refine zi_aload_n 0 d_Mo_next_60 rfl ?_
  obtain ⟨v51, ev51, h⟩ := zbind h
  refine zo_getI 64 zkd_11 14 d_Mo_next_61 ev51 rfl tw_1245 rfl ?_
  refine zi_aload_n 0 d_Mo_next_64 rfl ?_
  obtain ⟨v52, ev52, h⟩ := zbind h
  refine zo_getI 68 zkd_11 13 d_Mo_next_65 ev52 rfl tw_1244 rfl ?_
  refine zi_icmp_ne (tgt := 75) d_Mo_next_68 rfl (fun c53 => ?_) (fun c53 => ?_)
  · rw [if_neg c53] at h
    refine zi_aload_n 0 d_Mo_next_75 rfl ?_
    obtain ⟨b54, eb54, h⟩ := zbind h
    refine zo_getR 79 zkd_11 12 d_Mo_next_76 eb54 rfl tw_1243 rfl ?_
    refine zi_aload_n 0 d_Mo_next_79 rfl ?_
    obtain ⟨v55, ev55, h⟩ := zbind h
    refine zo_getI 83 zkd_11 14 d_Mo_next_80 ev55 rfl tw_1245 rfl ?_
    obtain ⟨v56, ev56, h⟩ := zbind h
    refine zo_iald 84 d_Mo_next_83 ev56 rfl ?_
    obtain ⟨q57, eq57, h⟩ := zbind h
    refine zo_stat (k' := 0) (n' := 0) 87 [.int v56] [.ref a0] [.int (bI q57.1), .ref a0] (C_Mo_isSmall n E S v56 m50 q57.1 q57.2 eq57) d_Mo_next_84 tw_1582 tw_1580 tw_1581 tw_13 dd_Mo_isSmall ⟨Nat.le_of_ble_eq_true rfl, Nat.le_of_ble_eq_true rfl, Nat.le_of_ble_eq_true rfl, Nat.le_of_ble_eq_true rfl⟩ (Nat.le_of_ble_eq_true rfl) rfl rfl rfl rfl ?_
    refine zo_ifeqB d_Mo_next_87 rfl 90 rfl (fun c58 => ?_) (fun c58 => ?_)
    · rw [if_neg c58] at h
      refine zi_aload_n 0 d_Mo_next_94 rfl ?_
      refine zo_getR 98 zkd_11 12 d_Mo_next_95 eb54 rfl tw_1243 rfl ?_
      refine zi_aload_n 0 d_Mo_next_98 rfl ?_
      obtain ⟨v59, ev59, h⟩ := zbind h
      refine zo_getI 102 zkd_11 14 d_Mo_next_99 ev59 rfl tw_1245 rfl ?_
      obtain ⟨v60, ev60, h⟩ := zbind h
      refine zo_iald 103 d_Mo_next_102 ev60 rfl ?_
      obtain ⟨q61, eq61, h⟩ := zbind h
      refine zo_stat (k' := 0) (n' := 0) 106 [.int v60] [.ref a0] [.int (bI q61.1), .ref a0] (C_Mo_isDigit n E S v60 q57.2 q61.1 q61.2 eq61) d_Mo_next_103 tw_1585 tw_1583 tw_1584 tw_13 dd_Mo_isDigit ⟨Nat.le_of_ble_eq_true rfl, Nat.le_of_ble_eq_true rfl, Nat.le_of_ble_eq_true rfl, Nat.le_of_ble_eq_true rfl⟩ (Nat.le_of_ble_eq_true rfl) rfl rfl rfl rfl ?_
      refine zo_ifeqB d_Mo_next_106 rfl 109 rfl (fun c62 => ?_) (fun c62 => ?_)
      · rw [if_neg c62] at h
        refine zi_iconst 3 d_Mo_next_113 rfl ?_
        refine zi_lo [(0, .ref a0)] [0] rfl ?_
        exact K_Mo_next_b114 n E S a0 3 a0 q61.2 M'  h
      · rw [if_pos c62] at h
        refine zi_iconst 2 d_Mo_next_109 rfl ?_
        refine zi_goto (tgt := 114) d_Mo_next_110 rfl ?_
        refine zi_lo [(0, .ref a0)] [0] rfl ?_
        exact K_Mo_next_b114 n E S a0 2 a0 q61.2 M'  h
    · rw [if_pos c58] at h
      refine zi_iconst 1 d_Mo_next_90 rfl ?_
      refine zi_goto (tgt := 114) d_Mo_next_91 rfl ?_
      refine zi_lo [(0, .ref a0)] [0] rfl ?_
      exact K_Mo_next_b114 n E S a0 1 a0 q57.2 M'  h
  · rw [if_pos c53] at h
    refine zi_iconst 0 d_Mo_next_71 rfl ?_
    refine zi_goto (tgt := 114) d_Mo_next_72 rfl ?_
    refine zi_lo [(0, .ref a0)] [0] rfl ?_
    exact K_Mo_next_b114 n E S a0 0 a0 m50 M'  h
theorem K_Mo_next_L8 (n : Nat) (E : zE) (S : zS) (r8 : Nat × zH → Option (zH)) (a0 : Nat) (M : zH) (M' : zH) (hr8 : ∀ (a0 : Nat) (M : zH), r8 (a0, M) = some M' → zG E Y_Mo_next (none, S, M') 8 [(0, .ref a0)] [] S M 0 0) (h : F_Mo_next_L8 n E S r8 a0 M = some M') : zG E Y_Mo_next (none, S, M') 8 [(0, .ref a0)] [] S M 0 0 := by
  unfold F_Mo_next_L8 at h
  refine zi_aload_n 0 d_Mo_next_8 rfl ?_
  obtain ⟨v63, ev63, h⟩ := zbind h
  refine zo_getI 12 zkd_11 14 d_Mo_next_9 ev63 rfl tw_1245 rfl ?_
  refine zi_aload_n 0 d_Mo_next_12 rfl ?_
  obtain ⟨v64, ev64, h⟩ := zbind h
  refine zo_getI 16 zkd_11 13 d_Mo_next_13 ev64 rfl tw_1244 rfl ?_
  refine zi_icmp_ge (tgt := 46) d_Mo_next_16 rfl (fun c65 => ?_) (fun c65 => ?_)
  · rw [if_pos c65] at h
    refine zi_lo [(0, .ref a0)] [0] rfl ?_
    exact K_Mo_next_b46 n E S a0 M M'  h
  · rw [if_neg c65] at h
    refine zi_aload_n 0 d_Mo_next_19 rfl ?_
    obtain ⟨b66, eb66, h⟩ := zbind h
    refine zo_getR 23 zkd_11 12 d_Mo_next_20 eb66 rfl tw_1243 rfl ?_
    refine zi_aload_n 0 d_Mo_next_23 rfl ?_
    obtain ⟨v67, ev67, h⟩ := zbind h
    refine zo_getI 27 zkd_11 14 d_Mo_next_24 ev67 rfl tw_1245 rfl ?_
    obtain ⟨v68, ev68, h⟩ := zbind h
    refine zo_iald 28 d_Mo_next_27 ev68 rfl ?_
    refine zi_bipush 32 d_Mo_next_28 rfl ?_
    refine zi_icmp_ne (tgt := 46) d_Mo_next_30 rfl (fun c69 => ?_) (fun c69 => ?_)
    · rw [if_neg c69] at h
      refine zi_lo [(0, .ref a0)] [0] rfl ?_
      exact K_Mo_next_b46 n E S a0 M M'  h
    · rw [if_pos c69] at h
      refine zi_aload_n 0 d_Mo_next_33 rfl ?_
      refine zi_dup d_Mo_next_34 rfl ?_
      obtain ⟨v70, ev70, h⟩ := zbind h
      refine zo_getI 38 zkd_11 14 d_Mo_next_35 ev70 rfl tw_1245 rfl ?_
      refine zi_iconst 1 d_Mo_next_38 rfl ?_
      refine zi_iadd d_Mo_next_39 ?_
      obtain ⟨m71, em71, h⟩ := zbind h
      refine zo_putI 43 zkd_11 14 d_Mo_next_40 em71 rfl rfl rfl tw_1245 rfl ?_
      refine zi_goto (tgt := 8) d_Mo_next_43 rfl ?_
      refine zi_lo [(0, .ref a0)] [0] rfl ?_
      exact hr8 a0 m71 h
theorem K_Mo_next_b8 (n : Nat) (E : zE) (S : zS) (a0 : Nat) (M : zH) (M' : zH)  (h : F_Mo_next_b8 n E S (a0, M) = some M') : zG E Y_Mo_next (none, S, M') 8 [(0, .ref a0)] [] S M 0 0 := by
  have key : ∀ (k : Nat) (a0 : Nat) (M : zH), zfix (fun r8 s => F_Mo_next_L8 n E S r8 s.1 s.2) k (a0, M) = some M' → zG E Y_Mo_next (none, S, M') 8 [(0, .ref a0)] [] S M 0 0 := by
    intro k
    induction k with
    | zero => intro a0 M h; cases h
    | succ k ih => intro a0 M h; exact K_Mo_next_L8 n E S _ a0 M M'  (fun a0 M h => ih a0 M h) h
  exact key n a0 M h
theorem K_Mo_next (n : Nat) (E : zE) (S : zS) (a0 : Nat) (M : zH) (M' : zH)  (h : F_Mo_next n E S a0 M = some M') : zG E Y_Mo_next (none, S, M') 0 [(0, .ref a0)] [] S M 0 0 := by
  unfold F_Mo_next at h
  refine zi_aload_n 0 d_Mo_next_0 rfl ?_
  refine zi_aload_n 0 d_Mo_next_1 rfl ?_
  obtain ⟨v72, ev72, h⟩ := zbind h
  refine zo_getI 5 zkd_11 15 d_Mo_next_2 ev72 rfl tw_1246 rfl ?_
  obtain ⟨m73, em73, h⟩ := zbind h
  refine zo_putI 8 zkd_11 14 d_Mo_next_5 em73 rfl rfl rfl tw_1245 rfl ?_
  refine zi_lo [(0, .ref a0)] [0] rfl ?_
  exact K_Mo_next_b8 n E S a0 m73 M'  h
theorem C_Mo_next (n : Nat) (E : zE) (S : zS) (a0 : Nat) (M : zH) (M' : zH) (h : F_Mo_next n E S a0 M = some M') : zC E Y_Mo_next [.ref a0] S M (none, S, M') :=
  zC.of (Or.inl (show plainName "NightColanderModel" = true by decide)) (Nat.le_of_ble_eq_true rfl) (trivial) (K_Mo_next n E S a0 M M' h)
theorem d_Mo_begin_0 : decode (yB Y_Mo_begin) 0 = .ok (.aload_n 0, 1) := by decide +kernel
theorem d_Mo_begin_1 : decode (yB Y_Mo_begin) 1 = .ok (.iconst 0, 1) := by decide +kernel
theorem d_Mo_begin_2 : decode (yB Y_Mo_begin) 2 = .ok (.putfield 253, 3) := by decide +kernel
theorem d_Mo_begin_5 : decode (yB Y_Mo_begin) 5 = .ok (.aload_n 0, 1) := by decide +kernel
theorem d_Mo_begin_6 : decode (yB Y_Mo_begin) 6 = .ok (.iconst 0, 1) := by decide +kernel
theorem d_Mo_begin_7 : decode (yB Y_Mo_begin) 7 = .ok (.putfield 256, 3) := by decide +kernel
theorem d_Mo_begin_10 : decode (yB Y_Mo_begin) 10 = .ok (.aload_n 0, 1) := by decide +kernel
theorem d_Mo_begin_11 : decode (yB Y_Mo_begin) 11 = .ok (.iconst (-1), 1) := by decide +kernel
theorem d_Mo_begin_12 : decode (yB Y_Mo_begin) 12 = .ok (.putfield 38, 3) := by decide +kernel
theorem d_Mo_begin_15 : decode (yB Y_Mo_begin) 15 = .ok (.aload_n 0, 1) := by decide +kernel
theorem d_Mo_begin_16 : decode (yB Y_Mo_begin) 16 = .ok (.invokevirtual 260, 3) := by decide +kernel
theorem d_Mo_begin_19 : decode (yB Y_Mo_begin) 19 = .ok (.return_, 1) := by decide +kernel
def F_Mo_begin (n : Nat) (E : zE) (S : zS) (a0 : Nat) (M : zH) : Option (zH) :=
  (zpI S M a0 11 15 0).bind fun m1 =>
  (zpZ S m1 a0 11 19 0).bind fun m2 =>
  (zpI S m2 a0 11 18 (-1)).bind fun m3 =>
  (zck S a0 11).bind fun u4 =>
  (F_Mo_next n E S a0 m3).bind fun q5 =>
  some (q5)
theorem K_Mo_begin (n : Nat) (E : zE) (S : zS) (a0 : Nat) (M : zH) (M' : zH)  (h : F_Mo_begin n E S a0 M = some M') : zG E Y_Mo_begin (none, S, M') 0 [(0, .ref a0)] [] S M 0 0 := by
  unfold F_Mo_begin at h
  refine zi_aload_n 0 d_Mo_begin_0 rfl ?_
  refine zi_iconst 0 d_Mo_begin_1 rfl ?_
  obtain ⟨m1, em1, h⟩ := zbind h
  refine zo_putI 5 zkd_11 15 d_Mo_begin_2 em1 rfl rfl rfl tw_1246 rfl ?_
  refine zi_aload_n 0 d_Mo_begin_5 rfl ?_
  refine zi_iconst 0 d_Mo_begin_6 rfl ?_
  obtain ⟨m2, em2, h⟩ := zbind h
  refine zo_putZ 10 zkd_11 19 d_Mo_begin_7 em2 rfl rfl rfl tw_1250 rfl ?_
  refine zi_aload_n 0 d_Mo_begin_10 rfl ?_
  refine zi_iconst (-1) d_Mo_begin_11 rfl ?_
  obtain ⟨m3, em3, h⟩ := zbind h
  refine zo_putI 15 zkd_11 18 d_Mo_begin_12 em3 rfl rfl rfl tw_1249 rfl ?_
  refine zi_aload_n 0 d_Mo_begin_15 rfl ?_
  obtain ⟨u4, eu4, h⟩ := zbind h
  obtain ⟨q5, eq5, h⟩ := zbind h
  refine zo_virt (k' := 0) (n' := 0) 19 [] [] [] zkd_11 (zck_s eu4) (C_Mo_next n E S a0 m3 q5 eq5) d_Mo_begin_16 tw_1579 tw_1576 tw_1578 ts_56 tw_13 dd_Mo_next ⟨Nat.le_of_ble_eq_true rfl, Nat.le_of_ble_eq_true rfl, Nat.le_of_ble_eq_true rfl, Nat.le_of_ble_eq_true rfl⟩ (Nat.le_of_ble_eq_true rfl) rfl rfl rfl rfl ?_
  cases h
  exact zo_ret d_Mo_begin_19 (Nat.le_of_ble_eq_true rfl) (Nat.le_of_ble_eq_true rfl) rfl
theorem C_Mo_begin (n : Nat) (E : zE) (S : zS) (a0 : Nat) (M : zH) (M' : zH) (h : F_Mo_begin n E S a0 M = some M') : zC E Y_Mo_begin [.ref a0] S M (none, S, M') :=
  zC.of (Or.inl (show plainName "NightColanderModel" = true by decide)) (Nat.le_of_ble_eq_true rfl) (trivial) (K_Mo_begin n E S a0 M M' h)
theorem d_Mo_beginText_0 : decode (yB Y_Mo_beginText) 0 = .ok (.aload_n 0, 1) := by decide +kernel
theorem d_Mo_beginText_1 : decode (yB Y_Mo_beginText) 1 = .ok (.iload_n 1, 1) := by decide +kernel
theorem d_Mo_beginText_2 : decode (yB Y_Mo_beginText) 2 = .ok (.putfield 331, 3) := by decide +kernel
theorem d_Mo_beginText_5 : decode (yB Y_Mo_beginText) 5 = .ok (.aload_n 0, 1) := by decide +kernel
theorem d_Mo_beginText_6 : decode (yB Y_Mo_beginText) 6 = .ok (.invokevirtual 382, 3) := by decide +kernel
theorem d_Mo_beginText_9 : decode (yB Y_Mo_beginText) 9 = .ok (.aload_n 0, 1) := by decide +kernel
theorem d_Mo_beginText_10 : decode (yB Y_Mo_beginText) 10 = .ok (.iconst 0, 1) := by decide +kernel
theorem d_Mo_beginText_11 : decode (yB Y_Mo_beginText) 11 = .ok (.putfield 385, 3) := by decide +kernel
theorem d_Mo_beginText_14 : decode (yB Y_Mo_beginText) 14 = .ok (.aload_n 0, 1) := by decide +kernel
theorem d_Mo_beginText_15 : decode (yB Y_Mo_beginText) 15 = .ok (.iconst 0, 1) := by decide +kernel
theorem d_Mo_beginText_16 : decode (yB Y_Mo_beginText) 16 = .ok (.putfield 291, 3) := by decide +kernel
theorem d_Mo_beginText_19 : decode (yB Y_Mo_beginText) 19 = .ok (.aload_n 0, 1) := by decide +kernel
theorem d_Mo_beginText_20 : decode (yB Y_Mo_beginText) 20 = .ok (.iconst 0, 1) := by decide +kernel
theorem d_Mo_beginText_21 : decode (yB Y_Mo_beginText) 21 = .ok (.putfield 322, 3) := by decide +kernel
theorem d_Mo_beginText_24 : decode (yB Y_Mo_beginText) 24 = .ok (.return_, 1) := by decide +kernel
def F_Mo_beginText (n : Nat) (E : zE) (S : zS) (a0 : Nat) (x1 : Int32) (M : zH) : Option (zH) :=
  (zpZ S M a0 11 20 x1).bind fun m1 =>
  (zck S a0 11).bind fun u2 =>
  (F_Mo_begin n E S a0 m1).bind fun q3 =>
  (zpI S q3 a0 11 21 0).bind fun m4 =>
  (zpI S m4 a0 11 23 0).bind fun m5 =>
  (zpI S m5 a0 11 26 0).bind fun m6 =>
  some (m6)
theorem K_Mo_beginText (n : Nat) (E : zE) (S : zS) (a0 : Nat) (x1 : Int32) (M : zH) (M' : zH)  (h : F_Mo_beginText n E S a0 x1 M = some M') : zG E Y_Mo_beginText (none, S, M') 0 [(0, .ref a0), (1, .int x1)] [] S M 0 0 := by
  unfold F_Mo_beginText at h
  refine zi_aload_n 0 d_Mo_beginText_0 rfl ?_
  refine zi_iload_n 1 d_Mo_beginText_1 rfl ?_
  obtain ⟨m1, em1, h⟩ := zbind h
  refine zo_putZ 5 zkd_11 20 d_Mo_beginText_2 em1 rfl rfl rfl tw_1251 rfl ?_
  refine zi_aload_n 0 d_Mo_beginText_5 rfl ?_
  obtain ⟨u2, eu2, h⟩ := zbind h
  obtain ⟨q3, eq3, h⟩ := zbind h
  refine zo_virt (k' := 0) (n' := 0) 9 [] [] [] zkd_11 (zck_s eu2) (C_Mo_begin n E S a0 m1 q3 eq3) d_Mo_beginText_6 tw_1575 tw_1572 tw_1574 ts_55 tw_13 dd_Mo_begin ⟨Nat.le_of_ble_eq_true rfl, Nat.le_of_ble_eq_true rfl, Nat.le_of_ble_eq_true rfl, Nat.le_of_ble_eq_true rfl⟩ (Nat.le_of_ble_eq_true rfl) rfl rfl rfl rfl ?_
  refine zi_aload_n 0 d_Mo_beginText_9 rfl ?_
  refine zi_iconst 0 d_Mo_beginText_10 rfl ?_
  obtain ⟨m4, em4, h⟩ := zbind h
  refine zo_putI 14 zkd_11 21 d_Mo_beginText_11 em4 rfl rfl rfl tw_1252 rfl ?_
  refine zi_aload_n 0 d_Mo_beginText_14 rfl ?_
  refine zi_iconst 0 d_Mo_beginText_15 rfl ?_
  obtain ⟨m5, em5, h⟩ := zbind h
  refine zo_putI 19 zkd_11 23 d_Mo_beginText_16 em5 rfl rfl rfl tw_1254 rfl ?_
  refine zi_aload_n 0 d_Mo_beginText_19 rfl ?_
  refine zi_iconst 0 d_Mo_beginText_20 rfl ?_
  obtain ⟨m6, em6, h⟩ := zbind h
  refine zo_putI 24 zkd_11 26 d_Mo_beginText_21 em6 rfl rfl rfl tw_1257 rfl ?_
  cases h
  exact zo_ret d_Mo_beginText_24 (Nat.le_of_ble_eq_true rfl) (Nat.le_of_ble_eq_true rfl) rfl
theorem C_Mo_beginText (n : Nat) (E : zE) (S : zS) (a0 : Nat) (x1 : Int32) (M : zH) (M' : zH) (h : F_Mo_beginText n E S a0 x1 M = some M') : zC E Y_Mo_beginText [.ref a0, .int x1] S M (none, S, M') :=
  zC.of (Or.inl (show plainName "NightColanderModel" = true by decide)) (Nat.le_of_ble_eq_true rfl) (trivial) (K_Mo_beginText n E S a0 x1 M M' h)
theorem d_Mo_must_0 : decode (yB Y_Mo_must) 0 = .ok (.aload_n 0, 1) := by decide +kernel
theorem d_Mo_must_1 : decode (yB Y_Mo_must) 1 = .ok (.getfield 256, 3) := by decide +kernel
theorem d_Mo_must_4 : decode (yB Y_Mo_must) 4 = .ok (.ifCond .ne 20, 3) := by decide +kernel
theorem d_Mo_must_7 : decode (yB Y_Mo_must) 7 = .ok (.iload_n 1, 1) := by decide +kernel
theorem d_Mo_must_8 : decode (yB Y_Mo_must) 8 = .ok (.ifCond .ne 16, 3) := by decide +kernel
theorem d_Mo_must_11 : decode (yB Y_Mo_must) 11 = .ok (.aload_n 0, 1) := by decide +kernel
theorem d_Mo_must_12 : decode (yB Y_Mo_must) 12 = .ok (.iconst 1, 1) := by decide +kernel
theorem d_Mo_must_13 : decode (yB Y_Mo_must) 13 = .ok (.putfield 256, 3) := by decide +kernel
theorem d_Mo_must_16 : decode (yB Y_Mo_must) 16 = .ok (.aload_n 0, 1) := by decide +kernel
theorem d_Mo_must_17 : decode (yB Y_Mo_must) 17 = .ok (.aload_n 0, 1) := by decide +kernel
theorem d_Mo_must_18 : decode (yB Y_Mo_must) 18 = .ok (.getfield 263, 3) := by decide +kernel
theorem d_Mo_must_21 : decode (yB Y_Mo_must) 21 = .ok (.putfield 38, 3) := by decide +kernel
theorem d_Mo_must_24 : decode (yB Y_Mo_must) 24 = .ok (.aload_n 0, 1) := by decide +kernel
theorem d_Mo_must_25 : decode (yB Y_Mo_must) 25 = .ok (.getfield 256, 3) := by decide +kernel
theorem d_Mo_must_28 : decode (yB Y_Mo_must) 28 = .ok (.ifCond .ne 7, 3) := by decide +kernel
theorem d_Mo_must_31 : decode (yB Y_Mo_must) 31 = .ok (.aload_n 0, 1) := by decide +kernel
theorem d_Mo_must_32 : decode (yB Y_Mo_must) 32 = .ok (.invokevirtual 260, 3) := by decide +kernel
theorem d_Mo_must_35 : decode (yB Y_Mo_must) 35 = .ok (.return_, 1) := by decide +kernel
def F_Mo_must_b24 (n : Nat) (E : zE) (S : zS) (a0 : Nat) (M : zH) : Option (zH) :=
  (zgI S M a0 11 19).bind fun v1 =>
  if v1 = 0 then
    (F_Mo_next n E S a0 M).bind fun q3 =>
    some (q3)
  else
    some (M)
def F_Mo_must (n : Nat) (E : zE) (S : zS) (a0 : Nat) (x1 : Int32) (M : zH) : Option (zH) :=
  (zgI S M a0 11 19).bind fun v4 =>
  if v4 = 0 then
    if x1 = 0 then
      (zpZ S M a0 11 19 1).bind fun m7 =>
      (zgI S m7 a0 11 14).bind fun v8 =>
      (zpI S m7 a0 11 18 v8).bind fun m9 =>
      F_Mo_must_b24 n E S a0 m9
    else
      F_Mo_must_b24 n E S a0 M
  else
    F_Mo_must_b24 n E S a0 M
theorem K_Mo_must_b24 (n : Nat) (E : zE) (S : zS) (a0 : Nat) (M : zH) (M' : zH)  (h : F_Mo_must_b24 n E S a0 M = some M') : zG E Y_Mo_must (none, S, M') 24 [(0, .ref a0)] [] S M 0 0 := by
  unfold F_Mo_must_b24 at h
  refine zi_aload_n 0 d_Mo_must_24 rfl ?_
  obtain ⟨v1, ev1, h⟩ := zbind h
  refine zo_getI 28 zkd_11 19 d_Mo_must_25 ev1 rfl tw_1250 rfl ?_
  refine zi_if_ne (tgt := 35) d_Mo_must_28 rfl (fun c2 => ?_) (fun c2 => ?_)
  · rw [if_neg c2] at h
    cases h
    exact zo_ret d_Mo_must_35 (Nat.le_of_ble_eq_true rfl) (Nat.le_of_ble_eq_true rfl) rfl
  · rw [if_pos c2] at h
    refine zi_aload_n 0 d_Mo_must_31 rfl ?_
    obtain ⟨q3, eq3, h⟩ := zbind h
    refine zo_virt (k' := 0) (n' := 0) 35 [] [] [] zkd_11 (zgI_s ev1).1 (C_Mo_next n E S a0 M q3 eq3) d_Mo_must_32 tw_1579 tw_1576 tw_1578 ts_56 tw_13 dd_Mo_next ⟨Nat.le_of_ble_eq_true rfl, Nat.le_of_ble_eq_true rfl, Nat.le_of_ble_eq_true rfl, Nat.le_of_ble_eq_true rfl⟩ (Nat.le_of_ble_eq_true rfl) rfl rfl rfl rfl ?_
    cases h
    exact zo_ret d_Mo_must_35 (Nat.le_of_ble_eq_true rfl) (Nat.le_of_ble_eq_true rfl) rfl
theorem K_Mo_must (n : Nat) (E : zE) (S : zS) (a0 : Nat) (x1 : Int32) (M : zH) (M' : zH)  (h : F_Mo_must n E S a0 x1 M = some M') : zG E Y_Mo_must (none, S, M') 0 [(0, .ref a0), (1, .int x1)] [] S M 0 0 := by
  unfold F_Mo_must at h
  refine zi_aload_n 0 d_Mo_must_0 rfl ?_
  obtain ⟨v4, ev4, h⟩ := zbind h
  refine zo_getI 4 zkd_11 19 d_Mo_must_1 ev4 rfl tw_1250 rfl ?_
  refine zi_if_ne (tgt := 24) d_Mo_must_4 rfl (fun c5 => ?_) (fun c5 => ?_)
  · rw [if_neg c5] at h
    refine zi_lo [(0, .ref a0)] [0] rfl ?_
    exact K_Mo_must_b24 n E S a0 M M'  h
  · rw [if_pos c5] at h
    refine zi_iload_n 1 d_Mo_must_7 rfl ?_
    refine zi_if_ne (tgt := 24) d_Mo_must_8 rfl (fun c6 => ?_) (fun c6 => ?_)
    · rw [if_neg c6] at h
      refine zi_lo [(0, .ref a0)] [0] rfl ?_
      exact K_Mo_must_b24 n E S a0 M M'  h
    · rw [if_pos c6] at h
      refine zi_aload_n 0 d_Mo_must_11 rfl ?_
      refine zi_iconst 1 d_Mo_must_12 rfl ?_
      obtain ⟨m7, em7, h⟩ := zbind h
      refine zo_putZ 16 zkd_11 19 d_Mo_must_13 em7 rfl rfl rfl tw_1250 rfl ?_
      refine zi_aload_n 0 d_Mo_must_16 rfl ?_
      refine zi_aload_n 0 d_Mo_must_17 rfl ?_
      obtain ⟨v8, ev8, h⟩ := zbind h
      refine zo_getI 21 zkd_11 14 d_Mo_must_18 ev8 rfl tw_1245 rfl ?_
      obtain ⟨m9, em9, h⟩ := zbind h
      refine zo_putI 24 zkd_11 18 d_Mo_must_21 em9 rfl rfl rfl tw_1249 rfl ?_
      refine zi_lo [(0, .ref a0)] [0] rfl ?_
      exact K_Mo_must_b24 n E S a0 m9 M'  h
theorem C_Mo_must (n : Nat) (E : zE) (S : zS) (a0 : Nat) (x1 : Int32) (M : zH) (M' : zH) (h : F_Mo_must n E S a0 x1 M = some M') : zC E Y_Mo_must [.ref a0, .int x1] S M (none, S, M') :=
  zC.of (Or.inl (show plainName "NightColanderModel" = true by decide)) (Nat.le_of_ble_eq_true rfl) (trivial) (K_Mo_must n E S a0 x1 M M' h)
theorem d_Mo_endText_0 : decode (yB Y_Mo_endText) 0 = .ok (.aload_n 0, 1) := by decide +kernel
theorem d_Mo_endText_1 : decode (yB Y_Mo_endText) 1 = .ok (.getfield 256, 3) := by decide +kernel
theorem d_Mo_endText_4 : decode (yB Y_Mo_endText) 4 = .ok (.ifCond .ne 15, 3) := by decide +kernel
theorem d_Mo_endText_7 : decode (yB Y_Mo_endText) 7 = .ok (.aload_n 0, 1) := by decide +kernel
theorem d_Mo_endText_8 : decode (yB Y_Mo_endText) 8 = .ok (.getfield 276, 3) := by decide +kernel
theorem d_Mo_endText_11 : decode (yB Y_Mo_endText) 11 = .ok (.ifCond .eq 8, 3) := by decide +kernel
theorem d_Mo_endText_14 : decode (yB Y_Mo_endText) 14 = .ok (.aload_n 0, 1) := by decide +kernel
theorem d_Mo_endText_15 : decode (yB Y_Mo_endText) 15 = .ok (.iconst 0, 1) := by decide +kernel
theorem d_Mo_endText_16 : decode (yB Y_Mo_endText) 16 = .ok (.invokevirtual 287, 3) := by decide +kernel
theorem d_Mo_endText_19 : decode (yB Y_Mo_endText) 19 = .ok (.aload_n 0, 1) := by decide +kernel
theorem d_Mo_endText_20 : decode (yB Y_Mo_endText) 20 = .ok (.iconst 0, 1) := by decide +kernel
theorem d_Mo_endText_21 : decode (yB Y_Mo_endText) 21 = .ok (.putfield 331, 3) := by decide +kernel
theorem d_Mo_endText_24 : decode (yB Y_Mo_endText) 24 = .ok (.aload_n 0, 1) := by decide +kernel
theorem d_Mo_endText_25 : decode (yB Y_Mo_endText) 25 = .ok (.iconst 0, 1) := by decide +kernel
theorem d_Mo_endText_26 : decode (yB Y_Mo_endText) 26 = .ok (.putfield 244, 3) := by decide +kernel
theorem d_Mo_endText_29 : decode (yB Y_Mo_endText) 29 = .ok (.return_, 1) := by decide +kernel
def F_Mo_endText_b19 (n : Nat) (E : zE) (S : zS) (a0 : Nat) (M : zH) : Option (zH) :=
  (zpZ S M a0 11 20 0).bind fun m1 =>
  (zpI S m1 a0 11 13 0).bind fun m2 =>
  some (m2)
def F_Mo_endText (n : Nat) (E : zE) (S : zS) (a0 : Nat) (M : zH) : Option (zH) :=
  (zgI S M a0 11 19).bind fun v3 =>
  if v3 = 0 then
    (zgI S M a0 11 16).bind fun v5 =>
    if v5 = 0 then
      F_Mo_endText_b19 n E S a0 M
    else
      (F_Mo_must n E S a0 0 M).bind fun q7 =>
      F_Mo_endText_b19 n E S a0 q7
  else
    F_Mo_endText_b19 n E S a0 M
theorem K_Mo_endText_b19 (n : Nat) (E : zE) (S : zS) (a0 : Nat) (M : zH) (M' : zH)  (h : F_Mo_endText_b19 n E S a0 M = some M') : zG E Y_Mo_endText (none, S, M') 19 [(0, .ref a0)] [] S M 0 0 := by
  unfold F_Mo_endText_b19 at h
  refine zi_aload_n 0 d_Mo_endText_19 rfl ?_
  refine zi_iconst 0 d_Mo_endText_20 rfl ?_
  obtain ⟨m1, em1, h⟩ := zbind h
  refine zo_putZ 24 zkd_11 20 d_Mo_endText_21 em1 rfl rfl rfl tw_1251 rfl ?_
  refine zi_aload_n 0 d_Mo_endText_24 rfl ?_
  refine zi_iconst 0 d_Mo_endText_25 rfl ?_
  obtain ⟨m2, em2, h⟩ := zbind h
  refine zo_putI 29 zkd_11 13 d_Mo_endText_26 em2 rfl rfl rfl tw_1244 rfl ?_
  cases h
  exact zo_ret d_Mo_endText_29 (Nat.le_of_ble_eq_true rfl) (Nat.le_of_ble_eq_true rfl) rfl
theorem K_Mo_endText (n : Nat) (E : zE) (S : zS) (a0 : Nat) (M : zH) (M' : zH)  (h : F_Mo_endText n E S a0 M = some M') : zG E Y_Mo_endText (none, S, M') 0 [(0, .ref a0)] [] S M 0 0 := by
  unfold F_Mo_endText at h
  refine zi_aload_n 0 d_Mo_endText_0 rfl ?_
  obtain ⟨v3, ev3, h⟩ := zbind h
  refine zo_getI 4 zkd_11 19 d_Mo_endText_1 ev3 rfl tw_1250 rfl ?_
  refine zi_if_ne (tgt := 19) d_Mo_endText_4 rfl (fun c4 => ?_) (fun c4 => ?_)
  · rw [if_neg c4] at h
    refine zi_lo [(0, .ref a0)] [0] rfl ?_
    exact K_Mo_endText_b19 n E S a0 M M'  h
  · rw [if_pos c4] at h
    refine zi_aload_n 0 d_Mo_endText_7 rfl ?_
    obtain ⟨v5, ev5, h⟩ := zbind h
    refine zo_getI 11 zkd_11 16 d_Mo_endText_8 ev5 rfl tw_1247 rfl ?_
    refine zi_if_eq (tgt := 19) d_Mo_endText_11 rfl (fun c6 => ?_) (fun c6 => ?_)
    · rw [if_pos c6] at h
      refine zi_lo [(0, .ref a0)] [0] rfl ?_
      exact K_Mo_endText_b19 n E S a0 M M'  h
    · rw [if_neg c6] at h
      refine zi_aload_n 0 d_Mo_endText_14 rfl ?_
      refine zi_iconst 0 d_Mo_endText_15 rfl ?_
      obtain ⟨q7, eq7, h⟩ := zbind h
      refine zo_virt (k' := 0) (n' := 0) 19 [.int 0] [] [] zkd_11 (zgI_s ev3).1 (C_Mo_must n E S a0 0 M q7 eq7) d_Mo_endText_16 tw_1601 tw_1598 tw_1600 ts_59 tw_13 dd_Mo_must ⟨Nat.le_of_ble_eq_true rfl, Nat.le_of_ble_eq_true rfl, Nat.le_of_ble_eq_true rfl, Nat.le_of_ble_eq_true rfl⟩ (Nat.le_of_ble_eq_true rfl) rfl rfl rfl rfl ?_
      refine zi_lo [(0, .ref a0)] [0] rfl ?_
      exact K_Mo_endText_b19 n E S a0 q7 M'  h
theorem C_Mo_endText (n : Nat) (E : zE) (S : zS) (a0 : Nat) (M : zH) (M' : zH) (h : F_Mo_endText n E S a0 M = some M') : zC E Y_Mo_endText [.ref a0] S M (none, S, M') :=
  zC.of (Or.inl (show plainName "NightColanderModel" = true by decide)) (Nat.le_of_ble_eq_true rfl) (trivial) (K_Mo_endText n E S a0 M M' h)
theorem d_Mo_isSign_0 : decode (yB Y_Mo_isSign) 0 = .ok (.aload_n 0, 1) := by decide +kernel
theorem d_Mo_isSign_1 : decode (yB Y_Mo_isSign) 1 = .ok (.getfield 276, 3) := by decide +kernel
theorem d_Mo_isSign_4 : decode (yB Y_Mo_isSign) 4 = .ok (.iconst 3, 1) := by decide +kernel
theorem d_Mo_isSign_5 : decode (yB Y_Mo_isSign) 5 = .ok (.if_icmp .ne 17, 3) := by decide +kernel
theorem d_Mo_isSign_8 : decode (yB Y_Mo_isSign) 8 = .ok (.aload_n 0, 1) := by decide +kernel
theorem d_Mo_isSign_9 : decode (yB Y_Mo_isSign) 9 = .ok (.getfield 266, 3) := by decide +kernel
theorem d_Mo_isSign_12 : decode (yB Y_Mo_isSign) 12 = .ok (.iload_n 1, 1) := by decide +kernel
theorem d_Mo_isSign_13 : decode (yB Y_Mo_isSign) 13 = .ok (.i2l, 1) := by decide +kernel
theorem d_Mo_isSign_14 : decode (yB Y_Mo_isSign) 14 = .ok (.lcmp, 1) := by decide +kernel
theorem d_Mo_isSign_15 : decode (yB Y_Mo_isSign) 15 = .ok (.ifCond .ne 7, 3) := by decide +kernel
theorem d_Mo_isSign_18 : decode (yB Y_Mo_isSign) 18 = .ok (.iconst 1, 1) := by decide +kernel
theorem d_Mo_isSign_19 : decode (yB Y_Mo_isSign) 19 = .ok (.goto 4, 3) := by decide +kernel
theorem d_Mo_isSign_22 : decode (yB Y_Mo_isSign) 22 = .ok (.iconst 0, 1) := by decide +kernel
theorem d_Mo_isSign_23 : decode (yB Y_Mo_isSign) 23 = .ok (.ireturn, 1) := by decide +kernel
def F_Mo_isSign (n : Nat) (E : zE) (S : zS) (a0 : Nat) (x1 : Int32) (M : zH) : Option (Bool × zH) :=
  (zgI S M a0 11 16).bind fun v1 =>
  if v1 = 3 then
    (zgJ S M a0 11 17).bind fun v3 =>
    if v3 = x1.toInt64 then
      some (true, M)
    else
      some (false, M)
  else
    some (false, M)
theorem K_Mo_isSign (n : Nat) (E : zE) (S : zS) (a0 : Nat) (x1 : Int32) (M : zH) (r : Bool) (M' : zH)  (h : F_Mo_isSign n E S a0 x1 M = some (r, M')) : zG E Y_Mo_isSign (some (.int (bI r)), S, M') 0 [(0, .ref a0), (1, .int x1)] [] S M 0 0 := by
  unfold F_Mo_isSign at h
  refine zi_aload_n 0 d_Mo_isSign_0 rfl ?_
  obtain ⟨v1, ev1, h⟩ := zbind h
  refine zo_getI 4 zkd_11 16 d_Mo_isSign_1 ev1 rfl tw_1247 rfl ?_
  refine zi_iconst 3 d_Mo_isSign_4 rfl ?_
  refine zi_icmp_ne (tgt := 22) d_Mo_isSign_5 rfl (fun c2 => ?_) (fun c2 => ?_)
  · rw [if_neg c2] at h
    refine zi_iconst 0 d_Mo_isSign_22 rfl ?_
    cases h
    exact zo_retB d_Mo_isSign_23 (Nat.le_of_ble_eq_true rfl) (Nat.le_of_ble_eq_true rfl) rfl
  · rw [if_pos c2] at h
    refine zi_aload_n 0 d_Mo_isSign_8 rfl ?_
    obtain ⟨v3, ev3, h⟩ := zbind h
    refine zo_getJ 12 zkd_11 17 d_Mo_isSign_9 ev3 rfl tw_1248 rfl ?_
    refine zi_iload_n 1 d_Mo_isSign_12 rfl ?_
    refine zi_i2l d_Mo_isSign_13 ?_
    refine zo_lc_ne d_Mo_isSign_14 d_Mo_isSign_15 rfl 18 rfl (fun c4 => ?_) (fun c4 => ?_)
    · rw [if_neg c4] at h
      refine zi_iconst 0 d_Mo_isSign_22 rfl ?_
      cases h
      exact zo_retB d_Mo_isSign_23 (Nat.le_of_ble_eq_true rfl) (Nat.le_of_ble_eq_true rfl) rfl
    · rw [if_pos c4] at h
      refine zi_iconst 1 d_Mo_isSign_18 rfl ?_
      refine zi_goto (tgt := 23) d_Mo_isSign_19 rfl ?_
      cases h
      exact zo_retB d_Mo_isSign_23 (Nat.le_of_ble_eq_true rfl) (Nat.le_of_ble_eq_true rfl) rfl
theorem C_Mo_isSign (n : Nat) (E : zE) (S : zS) (a0 : Nat) (x1 : Int32) (M : zH) (r : Bool) (M' : zH) (h : F_Mo_isSign n E S a0 x1 M = some (r, M')) : zC E Y_Mo_isSign [.ref a0, .int x1] S M (some (.int (bI r)), S, M') :=
  zC.of (Or.inl (show plainName "NightColanderModel" = true by decide)) (Nat.le_of_ble_eq_true rfl) (bI_nar r) (K_Mo_isSign n E S a0 x1 M r M' h)
theorem d_Mo_isWord_0 : decode (yB Y_Mo_isWord) 0 = .ok (.aload_n 0, 1) := by decide +kernel
theorem d_Mo_isWord_1 : decode (yB Y_Mo_isWord) 1 = .ok (.getfield 276, 3) := by decide +kernel
theorem d_Mo_isWord_4 : decode (yB Y_Mo_isWord) 4 = .ok (.iconst 1, 1) := by decide +kernel
theorem d_Mo_isWord_5 : decode (yB Y_Mo_isWord) 5 = .ok (.if_icmp .ne 16, 3) := by decide +kernel
theorem d_Mo_isWord_8 : decode (yB Y_Mo_isWord) 8 = .ok (.aload_n 0, 1) := by decide +kernel
theorem d_Mo_isWord_9 : decode (yB Y_Mo_isWord) 9 = .ok (.getfield 266, 3) := by decide +kernel
theorem d_Mo_isWord_12 : decode (yB Y_Mo_isWord) 12 = .ok (.lload_n 1, 1) := by decide +kernel
theorem d_Mo_isWord_13 : decode (yB Y_Mo_isWord) 13 = .ok (.lcmp, 1) := by decide +kernel
theorem d_Mo_isWord_14 : decode (yB Y_Mo_isWord) 14 = .ok (.ifCond .ne 7, 3) := by decide +kernel
theorem d_Mo_isWord_17 : decode (yB Y_Mo_isWord) 17 = .ok (.iconst 1, 1) := by decide +kernel
theorem d_Mo_isWord_18 : decode (yB Y_Mo_isWord) 18 = .ok (.goto 4, 3) := by decide +kernel
theorem d_Mo_isWord_21 : decode (yB Y_Mo_isWord) 21 = .ok (.iconst 0, 1) := by decide +kernel
theorem d_Mo_isWord_22 : decode (yB Y_Mo_isWord) 22 = .ok (.ireturn, 1) := by decide +kernel
def F_Mo_isWord (n : Nat) (E : zE) (S : zS) (a0 : Nat) (y1 : Int64) (M : zH) : Option (Bool × zH) :=
  (zgI S M a0 11 16).bind fun v1 =>
  if v1 = 1 then
    (zgJ S M a0 11 17).bind fun v3 =>
    if v3 = y1 then
      some (true, M)
    else
      some (false, M)
  else
    some (false, M)
theorem K_Mo_isWord (n : Nat) (E : zE) (S : zS) (a0 : Nat) (y1 : Int64) (M : zH) (r : Bool) (M' : zH)  (h : F_Mo_isWord n E S a0 y1 M = some (r, M')) : zG E Y_Mo_isWord (some (.int (bI r)), S, M') 0 [(0, .ref a0), (1, .long y1)] [] S M 0 0 := by
  unfold F_Mo_isWord at h
  refine zi_aload_n 0 d_Mo_isWord_0 rfl ?_
  obtain ⟨v1, ev1, h⟩ := zbind h
  refine zo_getI 4 zkd_11 16 d_Mo_isWord_1 ev1 rfl tw_1247 rfl ?_
  refine zi_iconst 1 d_Mo_isWord_4 rfl ?_
  refine zi_icmp_ne (tgt := 21) d_Mo_isWord_5 rfl (fun c2 => ?_) (fun c2 => ?_)
  · rw [if_neg c2] at h
    refine zi_iconst 0 d_Mo_isWord_21 rfl ?_
    cases h
    exact zo_retB d_Mo_isWord_22 (Nat.le_of_ble_eq_true rfl) (Nat.le_of_ble_eq_true rfl) rfl
  · rw [if_pos c2] at h
    refine zi_aload_n 0 d_Mo_isWord_8 rfl ?_
    obtain ⟨v3, ev3, h⟩ := zbind h
    refine zo_getJ 12 zkd_11 17 d_Mo_isWord_9 ev3 rfl tw_1248 rfl ?_
    refine zi_lload_n 1 d_Mo_isWord_12 rfl ?_
    refine zo_lc_ne d_Mo_isWord_13 d_Mo_isWord_14 rfl 17 rfl (fun c4 => ?_) (fun c4 => ?_)
    · rw [if_neg c4] at h
      refine zi_iconst 0 d_Mo_isWord_21 rfl ?_
      cases h
      exact zo_retB d_Mo_isWord_22 (Nat.le_of_ble_eq_true rfl) (Nat.le_of_ble_eq_true rfl) rfl
    · rw [if_pos c4] at h
      refine zi_iconst 1 d_Mo_isWord_17 rfl ?_
      refine zi_goto (tgt := 22) d_Mo_isWord_18 rfl ?_
      cases h
      exact zo_retB d_Mo_isWord_22 (Nat.le_of_ble_eq_true rfl) (Nat.le_of_ble_eq_true rfl) rfl
theorem C_Mo_isWord (n : Nat) (E : zE) (S : zS) (a0 : Nat) (y1 : Int64) (M : zH) (r : Bool) (M' : zH) (h : F_Mo_isWord n E S a0 y1 M = some (r, M')) : zC E Y_Mo_isWord [.ref a0, .long y1] S M (some (.int (bI r)), S, M') :=
  zC.of (Or.inl (show plainName "NightColanderModel" = true by decide)) (Nat.le_of_ble_eq_true rfl) (bI_nar r) (K_Mo_isWord n E S a0 y1 M r M' h)
