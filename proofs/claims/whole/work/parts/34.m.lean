/-! METHODS (printed by gen/build.py): Mo_runsOf Mo_hole Mo_change Mo_turn Mo_bucketAt Mo_bucket Mo_setBucket Mo_isBarred Mo_leaksOf Mo_paysOf Mo_of Mo_wanted Mo_holeAbove Mo_flowOn Mo_flow Mo_isTerm -/
theorem d_Mo_runsOf_0 : decode (yB Y_Mo_runsOf) 0 = .ok (.aload_n 0, 1) := by decide +kernel
theorem d_Mo_runsOf_1 : decode (yB Y_Mo_runsOf) 1 = .ok (.getfield 13, 3) := by decide +kernel
theorem d_Mo_runsOf_4 : decode (yB Y_Mo_runsOf) 4 = .ok (.bipush 12, 2) := by decide +kernel
theorem d_Mo_runsOf_6 : decode (yB Y_Mo_runsOf) 6 = .ok (.bipush 8, 2) := by decide +kernel
theorem d_Mo_runsOf_8 : decode (yB Y_Mo_runsOf) 8 = .ok (.iload_n 1, 1) := by decide +kernel
theorem d_Mo_runsOf_9 : decode (yB Y_Mo_runsOf) 9 = .ok (.imul, 1) := by decide +kernel
theorem d_Mo_runsOf_10 : decode (yB Y_Mo_runsOf) 10 = .ok (.iadd, 1) := by decide +kernel
theorem d_Mo_runsOf_11 : decode (yB Y_Mo_runsOf) 11 = .ok (.iload_n 2, 1) := by decide +kernel
theorem d_Mo_runsOf_12 : decode (yB Y_Mo_runsOf) 12 = .ok (.iadd, 1) := by decide +kernel
theorem d_Mo_runsOf_13 : decode (yB Y_Mo_runsOf) 13 = .ok (.iaload, 1) := by decide +kernel
theorem d_Mo_runsOf_14 : decode (yB Y_Mo_runsOf) 14 = .ok (.istore 4, 2) := by decide +kernel
theorem d_Mo_runsOf_16 : decode (yB Y_Mo_runsOf) 16 = .ok (.aload_n 0, 1) := by decide +kernel
theorem d_Mo_runsOf_17 : decode (yB Y_Mo_runsOf) 17 = .ok (.getfield 103, 3) := by decide +kernel
theorem d_Mo_runsOf_20 : decode (yB Y_Mo_runsOf) 20 = .ok (.iconst 1, 1) := by decide +kernel
theorem d_Mo_runsOf_21 : decode (yB Y_Mo_runsOf) 21 = .ok (.iload_n 1, 1) := by decide +kernel
theorem d_Mo_runsOf_22 : decode (yB Y_Mo_runsOf) 22 = .ok (.i2l, 1) := by decide +kernel
theorem d_Mo_runsOf_23 : decode (yB Y_Mo_runsOf) 23 = .ok (.lastore, 1) := by decide +kernel
theorem d_Mo_runsOf_24 : decode (yB Y_Mo_runsOf) 24 = .ok (.aload_n 0, 1) := by decide +kernel
theorem d_Mo_runsOf_25 : decode (yB Y_Mo_runsOf) 25 = .ok (.getfield 103, 3) := by decide +kernel
theorem d_Mo_runsOf_28 : decode (yB Y_Mo_runsOf) 28 = .ok (.iconst 2, 1) := by decide +kernel
theorem d_Mo_runsOf_29 : decode (yB Y_Mo_runsOf) 29 = .ok (.iload_n 2, 1) := by decide +kernel
theorem d_Mo_runsOf_30 : decode (yB Y_Mo_runsOf) 30 = .ok (.i2l, 1) := by decide +kernel
theorem d_Mo_runsOf_31 : decode (yB Y_Mo_runsOf) 31 = .ok (.lastore, 1) := by decide +kernel
theorem d_Mo_runsOf_32 : decode (yB Y_Mo_runsOf) 32 = .ok (.aload_n 0, 1) := by decide +kernel
theorem d_Mo_runsOf_33 : decode (yB Y_Mo_runsOf) 33 = .ok (.getfield 103, 3) := by decide +kernel
theorem d_Mo_runsOf_36 : decode (yB Y_Mo_runsOf) 36 = .ok (.iconst 3, 1) := by decide +kernel
theorem d_Mo_runsOf_37 : decode (yB Y_Mo_runsOf) 37 = .ok (.iload 4, 2) := by decide +kernel
theorem d_Mo_runsOf_39 : decode (yB Y_Mo_runsOf) 39 = .ok (.i2l, 1) := by decide +kernel
theorem d_Mo_runsOf_40 : decode (yB Y_Mo_runsOf) 40 = .ok (.lastore, 1) := by decide +kernel
theorem d_Mo_runsOf_41 : decode (yB Y_Mo_runsOf) 41 = .ok (.aload_n 0, 1) := by decide +kernel
theorem d_Mo_runsOf_42 : decode (yB Y_Mo_runsOf) 42 = .ok (.getfield 103, 3) := by decide +kernel
theorem d_Mo_runsOf_45 : decode (yB Y_Mo_runsOf) 45 = .ok (.iconst 5, 1) := by decide +kernel
theorem d_Mo_runsOf_46 : decode (yB Y_Mo_runsOf) 46 = .ok (.ldc2_w 228, 3) := by decide +kernel
theorem d_Mo_runsOf_49 : decode (yB Y_Mo_runsOf) 49 = .ok (.lastore, 1) := by decide +kernel
theorem d_Mo_runsOf_50 : decode (yB Y_Mo_runsOf) 50 = .ok (.aload_n 0, 1) := by decide +kernel
theorem d_Mo_runsOf_51 : decode (yB Y_Mo_runsOf) 51 = .ok (.getfield 103, 3) := by decide +kernel
theorem d_Mo_runsOf_54 : decode (yB Y_Mo_runsOf) 54 = .ok (.bipush 6, 2) := by decide +kernel
theorem d_Mo_runsOf_56 : decode (yB Y_Mo_runsOf) 56 = .ok (.ldc2_w 228, 3) := by decide +kernel
theorem d_Mo_runsOf_59 : decode (yB Y_Mo_runsOf) 59 = .ok (.lastore, 1) := by decide +kernel
theorem d_Mo_runsOf_60 : decode (yB Y_Mo_runsOf) 60 = .ok (.aload_n 0, 1) := by decide +kernel
theorem d_Mo_runsOf_61 : decode (yB Y_Mo_runsOf) 61 = .ok (.iconst 0, 1) := by decide +kernel
theorem d_Mo_runsOf_62 : decode (yB Y_Mo_runsOf) 62 = .ok (.iload_n 3, 1) := by decide +kernel
theorem d_Mo_runsOf_63 : decode (yB Y_Mo_runsOf) 63 = .ok (.iload 4, 2) := by decide +kernel
theorem d_Mo_runsOf_65 : decode (yB Y_Mo_runsOf) 65 = .ok (.aload_n 0, 1) := by decide +kernel
theorem d_Mo_runsOf_66 : decode (yB Y_Mo_runsOf) 66 = .ok (.getfield 13, 3) := by decide +kernel
theorem d_Mo_runsOf_69 : decode (yB Y_Mo_runsOf) 69 = .ok (.iconst 5, 1) := by decide +kernel
theorem d_Mo_runsOf_70 : decode (yB Y_Mo_runsOf) 70 = .ok (.iaload, 1) := by decide +kernel
theorem d_Mo_runsOf_71 : decode (yB Y_Mo_runsOf) 71 = .ok (.imul, 1) := by decide +kernel
theorem d_Mo_runsOf_72 : decode (yB Y_Mo_runsOf) 72 = .ok (.i2l, 1) := by decide +kernel
theorem d_Mo_runsOf_73 : decode (yB Y_Mo_runsOf) 73 = .ok (.invokevirtual 431, 3) := by decide +kernel
theorem d_Mo_runsOf_76 : decode (yB Y_Mo_runsOf) 76 = .ok (.iconst 0, 1) := by decide +kernel
theorem d_Mo_runsOf_77 : decode (yB Y_Mo_runsOf) 77 = .ok (.bipush 99, 2) := by decide +kernel
theorem d_Mo_runsOf_79 : decode (yB Y_Mo_runsOf) 79 = .ok (.invokestatic 435, 3) := by decide +kernel
theorem d_Mo_runsOf_82 : decode (yB Y_Mo_runsOf) 82 = .ok (.ireturn, 1) := by decide +kernel
def F_Mo_runsOf (n : Nat) (E : zE) (S : zS) (a0 : Nat) (x1 : Int32) (x2 : Int32) (x3 : Int32) (M : zH) : Option (Int32 × zH) :=
  (zgR S a0 11 3).bind fun b1 =>
  (zldI S M b1 ((12 + (8 * x1)) + x2)).bind fun v2 =>
  (zgR S a0 11 35).bind fun b3 =>
  (zstJ S M b3 1 x1.toInt64).bind fun m4 =>
  (zstJ S m4 b3 2 x2.toInt64).bind fun m5 =>
  (zstJ S m5 b3 3 v2.toInt64).bind fun m6 =>
  (zstJ S m6 b3 5 (-1)).bind fun m7 =>
  (zstJ S m7 b3 6 (-1)).bind fun m8 =>
  (zldI S m8 b1 5).bind fun v9 =>
  (F_Mo_tells n E S a0 0 x3 ((v2 * v9).toInt64) m8).bind fun q10 =>
  (F_Mo_within n E S q10.1 0 99 q10.2).bind fun q11 =>
  some (q11.1, q11.2)
theorem K_Mo_runsOf (n : Nat) (E : zE) (S : zS) (a0 : Nat) (x1 : Int32) (x2 : Int32) (x3 : Int32) (M : zH) (r : Int32) (M' : zH)  (h : F_Mo_runsOf n E S a0 x1 x2 x3 M = some (r, M')) : zG E Y_Mo_runsOf (some (.int r), S, M') 0 [(0, .ref a0), (1, .int x1), (2, .int x2), (3, .int x3)] [] S M 0 0 := by
  unfold F_Mo_runsOf at h
  refine zi_aload_n 0 d_Mo_runsOf_0 rfl ?_
  obtain ⟨b1, eb1, h⟩ := zbind h
  refine zo_getR 4 zkd_11 3 d_Mo_runsOf_1 eb1 rfl tw_1234 rfl ?_
  refine zi_bipush 12 d_Mo_runsOf_4 rfl ?_
  refine zi_bipush 8 d_Mo_runsOf_6 rfl ?_
  refine zi_iload_n 1 d_Mo_runsOf_8 rfl ?_
  refine zi_imul d_Mo_runsOf_9 ?_
  refine zi_iadd d_Mo_runsOf_10 ?_
  refine zi_iload_n 2 d_Mo_runsOf_11 rfl ?_
  refine zi_iadd d_Mo_runsOf_12 ?_
  obtain ⟨v2, ev2, h⟩ := zbind h
  refine zo_iald 14 d_Mo_runsOf_13 ev2 rfl ?_
  refine zi_istore [(4, .int v2), (0, .ref a0), (1, .int x1), (2, .int x2), (3, .int x3)] d_Mo_runsOf_14 (by decide) rfl ?_
  refine zi_aload_n 1 d_Mo_runsOf_16 rfl ?_
  obtain ⟨b3, eb3, h⟩ := zbind h
  refine zo_getR 20 zkd_11 35 d_Mo_runsOf_17 eb3 rfl tw_1266 rfl ?_
  refine zi_iconst 1 d_Mo_runsOf_20 rfl ?_
  refine zi_iload_n 2 d_Mo_runsOf_21 rfl ?_
  refine zi_i2l d_Mo_runsOf_22 ?_
  obtain ⟨m4, em4, h⟩ := zbind h
  refine zo_last 24 d_Mo_runsOf_23 em4 rfl ?_
  refine zi_aload_n 1 d_Mo_runsOf_24 rfl ?_
  refine zo_getR 28 zkd_11 35 d_Mo_runsOf_25 eb3 rfl tw_1266 rfl ?_
  refine zi_iconst 2 d_Mo_runsOf_28 rfl ?_
  refine zi_iload_n 3 d_Mo_runsOf_29 rfl ?_
  refine zi_i2l d_Mo_runsOf_30 ?_
  obtain ⟨m5, em5, h⟩ := zbind h
  refine zo_last 32 d_Mo_runsOf_31 em5 rfl ?_
  refine zi_aload_n 1 d_Mo_runsOf_32 rfl ?_
  refine zo_getR 36 zkd_11 35 d_Mo_runsOf_33 eb3 rfl tw_1266 rfl ?_
  refine zi_iconst 3 d_Mo_runsOf_36 rfl ?_
  refine zi_iload 0 d_Mo_runsOf_37 rfl ?_
  refine zi_i2l d_Mo_runsOf_39 ?_
  obtain ⟨m6, em6, h⟩ := zbind h
  refine zo_last 41 d_Mo_runsOf_40 em6 rfl ?_
  refine zi_aload_n 1 d_Mo_runsOf_41 rfl ?_
  refine zo_getR 45 zkd_11 35 d_Mo_runsOf_42 eb3 rfl tw_1266 rfl ?_
  refine zi_iconst 5 d_Mo_runsOf_45 rfl ?_
  refine zi_ldc2 d_Mo_runsOf_46 tw_1449 ?_
  obtain ⟨m7, em7, h⟩ := zbind h
  refine zo_last 50 d_Mo_runsOf_49 em7 rfl ?_
  refine zi_aload_n 1 d_Mo_runsOf_50 rfl ?_
  refine zo_getR 54 zkd_11 35 d_Mo_runsOf_51 eb3 rfl tw_1266 rfl ?_
  refine zi_bipush 6 d_Mo_runsOf_54 rfl ?_
  refine zi_ldc2 d_Mo_runsOf_56 tw_1449 ?_
  obtain ⟨m8, em8, h⟩ := zbind h
  refine zo_last 60 d_Mo_runsOf_59 em8 rfl ?_
  refine zi_aload_n 1 d_Mo_runsOf_60 rfl ?_
  refine zi_iconst 0 d_Mo_runsOf_61 rfl ?_
  refine zi_iload_n 4 d_Mo_runsOf_62 rfl ?_
  refine zi_iload 0 d_Mo_runsOf_63 rfl ?_
  refine zi_aload_n 1 d_Mo_runsOf_65 rfl ?_
  refine zo_getR 69 zkd_11 3 d_Mo_runsOf_66 eb1 rfl tw_1234 rfl ?_
  refine zi_iconst 5 d_Mo_runsOf_69 rfl ?_
  obtain ⟨v9, ev9, h⟩ := zbind h
  refine zo_iald 71 d_Mo_runsOf_70 ev9 rfl ?_
  refine zi_imul d_Mo_runsOf_71 ?_
  refine zi_i2l d_Mo_runsOf_72 ?_
  obtain ⟨q10, eq10, h⟩ := zbind h
  refine zo_virt (k' := 0) (n' := 0) 76 [.int 0, .int x3, .long ((v2 * v9).toInt64)] [] [.long q10.1] zkd_11 (zgR_s eb1).1 (C_Mo_tells n E S a0 0 x3 ((v2 * v9).toInt64) m8 q10.1 q10.2 eq10) d_Mo_runsOf_73 tw_1453 tw_1450 tw_1452 ts_40 tw_13 dd_Mo_tells ⟨Nat.le_of_ble_eq_true rfl, Nat.le_of_ble_eq_true rfl, Nat.le_of_ble_eq_true rfl, Nat.le_of_ble_eq_true rfl⟩ (Nat.le_of_ble_eq_true rfl) rfl rfl rfl rfl ?_
  refine zi_iconst 0 d_Mo_runsOf_76 rfl ?_
  refine zi_bipush 99 d_Mo_runsOf_77 rfl ?_
  obtain ⟨q11, eq11, h⟩ := zbind h
  refine zo_stat (k' := 0) (n' := 0) 82 [.long q10.1, .int 0, .int 99] [] [.int q11.1] (C_Mo_within n E S q10.1 0 99 q10.2 q11.1 q11.2 eq11) d_Mo_runsOf_79 tw_1474 tw_1472 tw_1473 tw_13 dd_Mo_within ⟨Nat.le_of_ble_eq_true rfl, Nat.le_of_ble_eq_true rfl, Nat.le_of_ble_eq_true rfl, Nat.le_of_ble_eq_true rfl⟩ (Nat.le_of_ble_eq_true rfl) rfl rfl rfl rfl ?_
  cases h
  exact zo_ret d_Mo_runsOf_82 (Nat.le_of_ble_eq_true rfl) (Nat.le_of_ble_eq_true rfl) rfl
theorem C_Mo_runsOf (n : Nat) (E : zE) (S : zS) (a0 : Nat) (x1 : Int32) (x2 : Int32) (x3 : Int32) (M : zH) (r : Int32) (M' : zH) (h : F_Mo_runsOf n E S a0 x1 x2 x3 M = some (r, M')) : zC E Y_Mo_runsOf [.ref a0, .int x1, .int x2, .int x3] S M (some (.int r), S, M') :=
  zC.of (Or.inl (show plainName "NightColanderModel" = true by decide)) (Nat.le_of_ble_eq_true rfl) (trivial) (K_Mo_runsOf n E S a0 x1 x2 x3 M r M' h)
theorem d_Mo_hole_0 : decode (yB Y_Mo_hole) 0 = .ok (.aload_n 0, 1) := by decide +kernel
theorem d_Mo_hole_1 : decode (yB Y_Mo_hole) 1 = .ok (.iconst 0, 1) := by decide +kernel
theorem d_Mo_hole_2 : decode (yB Y_Mo_hole) 2 = .ok (.putfield 156, 3) := by decide +kernel
theorem d_Mo_hole_5 : decode (yB Y_Mo_hole) 5 = .ok (.iload_n 1, 1) := by decide +kernel
theorem d_Mo_hole_6 : decode (yB Y_Mo_hole) 6 = .ok (.invokestatic 190, 3) := by decide +kernel
theorem d_Mo_hole_9 : decode (yB Y_Mo_hole) 9 = .ok (.ifCond .eq 10, 3) := by decide +kernel
theorem d_Mo_hole_12 : decode (yB Y_Mo_hole) 12 = .ok (.iload_n 2, 1) := by decide +kernel
theorem d_Mo_hole_13 : decode (yB Y_Mo_hole) 13 = .ok (.invokestatic 194, 3) := by decide +kernel
theorem d_Mo_hole_16 : decode (yB Y_Mo_hole) 16 = .ok (.ifCond .ne 5, 3) := by decide +kernel
theorem d_Mo_hole_19 : decode (yB Y_Mo_hole) 19 = .ok (.iconst (-1), 1) := by decide +kernel
theorem d_Mo_hole_20 : decode (yB Y_Mo_hole) 20 = .ok (.ireturn, 1) := by decide +kernel
theorem d_Mo_hole_21 : decode (yB Y_Mo_hole) 21 = .ok (.iload_n 2, 1) := by decide +kernel
theorem d_Mo_hole_22 : decode (yB Y_Mo_hole) 22 = .ok (.aload_n 0, 1) := by decide +kernel
theorem d_Mo_hole_23 : decode (yB Y_Mo_hole) 23 = .ok (.getfield 13, 3) := by decide +kernel
theorem d_Mo_hole_26 : decode (yB Y_Mo_hole) 26 = .ok (.bipush 8, 2) := by decide +kernel
theorem d_Mo_hole_28 : decode (yB Y_Mo_hole) 28 = .ok (.iload_n 1, 1) := by decide +kernel
theorem d_Mo_hole_29 : decode (yB Y_Mo_hole) 29 = .ok (.iadd, 1) := by decide +kernel
theorem d_Mo_hole_30 : decode (yB Y_Mo_hole) 30 = .ok (.iaload, 1) := by decide +kernel
theorem d_Mo_hole_31 : decode (yB Y_Mo_hole) 31 = .ok (.iadd, 1) := by decide +kernel
theorem d_Mo_hole_32 : decode (yB Y_Mo_hole) 32 = .ok (.bipush 8, 2) := by decide +kernel
theorem d_Mo_hole_34 : decode (yB Y_Mo_hole) 34 = .ok (.irem, 1) := by decide +kernel
theorem d_Mo_hole_35 : decode (yB Y_Mo_hole) 35 = .ok (.istore 4, 2) := by decide +kernel
theorem d_Mo_hole_37 : decode (yB Y_Mo_hole) 37 = .ok (.aload_n 0, 1) := by decide +kernel
theorem d_Mo_hole_38 : decode (yB Y_Mo_hole) 38 = .ok (.getfield 13, 3) := by decide +kernel
theorem d_Mo_hole_41 : decode (yB Y_Mo_hole) 41 = .ok (.bipush 44, 2) := by decide +kernel
theorem d_Mo_hole_43 : decode (yB Y_Mo_hole) 43 = .ok (.iload_n 1, 1) := by decide +kernel
theorem d_Mo_hole_44 : decode (yB Y_Mo_hole) 44 = .ok (.iadd, 1) := by decide +kernel
theorem d_Mo_hole_45 : decode (yB Y_Mo_hole) 45 = .ok (.iaload, 1) := by decide +kernel
theorem d_Mo_hole_46 : decode (yB Y_Mo_hole) 46 = .ok (.iload_n 2, 1) := by decide +kernel
theorem d_Mo_hole_47 : decode (yB Y_Mo_hole) 47 = .ok (.invokestatic 197, 3) := by decide +kernel
theorem d_Mo_hole_50 : decode (yB Y_Mo_hole) 50 = .ok (.istore 5, 2) := by decide +kernel
theorem d_Mo_hole_52 : decode (yB Y_Mo_hole) 52 = .ok (.iload_n 3, 1) := by decide +kernel
theorem d_Mo_hole_53 : decode (yB Y_Mo_hole) 53 = .ok (.tableswitch 78 0 3 #[31, 46, 57, 60], 31) := by decide +kernel
theorem d_Mo_hole_84 : decode (yB Y_Mo_hole) 84 = .ok (.aload_n 0, 1) := by decide +kernel
theorem d_Mo_hole_85 : decode (yB Y_Mo_hole) 85 = .ok (.getfield 13, 3) := by decide +kernel
theorem d_Mo_hole_88 : decode (yB Y_Mo_hole) 88 = .ok (.bipush 12, 2) := by decide +kernel
theorem d_Mo_hole_90 : decode (yB Y_Mo_hole) 90 = .ok (.bipush 8, 2) := by decide +kernel
theorem d_Mo_hole_92 : decode (yB Y_Mo_hole) 92 = .ok (.iload_n 1, 1) := by decide +kernel
theorem d_Mo_hole_93 : decode (yB Y_Mo_hole) 93 = .ok (.imul, 1) := by decide +kernel
theorem d_Mo_hole_94 : decode (yB Y_Mo_hole) 94 = .ok (.iadd, 1) := by decide +kernel
theorem d_Mo_hole_95 : decode (yB Y_Mo_hole) 95 = .ok (.iload_n 2, 1) := by decide +kernel
theorem d_Mo_hole_96 : decode (yB Y_Mo_hole) 96 = .ok (.iadd, 1) := by decide +kernel
theorem d_Mo_hole_97 : decode (yB Y_Mo_hole) 97 = .ok (.iaload, 1) := by decide +kernel
theorem d_Mo_hole_98 : decode (yB Y_Mo_hole) 98 = .ok (.ireturn, 1) := by decide +kernel
theorem d_Mo_hole_99 : decode (yB Y_Mo_hole) 99 = .ok (.iload 5, 2) := by decide +kernel
theorem d_Mo_hole_101 : decode (yB Y_Mo_hole) 101 = .ok (.ifCond .eq 7, 3) := by decide +kernel
theorem d_Mo_hole_104 : decode (yB Y_Mo_hole) 104 = .ok (.iconst 1, 1) := by decide +kernel
theorem d_Mo_hole_105 : decode (yB Y_Mo_hole) 105 = .ok (.goto 4, 3) := by decide +kernel
theorem d_Mo_hole_108 : decode (yB Y_Mo_hole) 108 = .ok (.iconst 0, 1) := by decide +kernel
theorem d_Mo_hole_109 : decode (yB Y_Mo_hole) 109 = .ok (.ireturn, 1) := by decide +kernel
theorem d_Mo_hole_110 : decode (yB Y_Mo_hole) 110 = .ok (.iload 4, 2) := by decide +kernel
theorem d_Mo_hole_112 : decode (yB Y_Mo_hole) 112 = .ok (.ireturn, 1) := by decide +kernel
theorem d_Mo_hole_113 : decode (yB Y_Mo_hole) 113 = .ok (.iload 5, 2) := by decide +kernel
theorem d_Mo_hole_115 : decode (yB Y_Mo_hole) 115 = .ok (.ifCond .eq 7, 3) := by decide +kernel
theorem d_Mo_hole_118 : decode (yB Y_Mo_hole) 118 = .ok (.iconst 0, 1) := by decide +kernel
theorem d_Mo_hole_119 : decode (yB Y_Mo_hole) 119 = .ok (.goto 11, 3) := by decide +kernel
theorem d_Mo_hole_122 : decode (yB Y_Mo_hole) 122 = .ok (.aload_n 0, 1) := by decide +kernel
theorem d_Mo_hole_123 : decode (yB Y_Mo_hole) 123 = .ok (.iload_n 1, 1) := by decide +kernel
theorem d_Mo_hole_124 : decode (yB Y_Mo_hole) 124 = .ok (.iload_n 2, 1) := by decide +kernel
theorem d_Mo_hole_125 : decode (yB Y_Mo_hole) 125 = .ok (.iload 4, 2) := by decide +kernel
theorem d_Mo_hole_127 : decode (yB Y_Mo_hole) 127 = .ok (.invokevirtual 201, 3) := by decide +kernel
theorem d_Mo_hole_130 : decode (yB Y_Mo_hole) 130 = .ok (.ireturn, 1) := by decide +kernel
theorem d_Mo_hole_131 : decode (yB Y_Mo_hole) 131 = .ok (.iconst (-1), 1) := by decide +kernel
theorem d_Mo_hole_132 : decode (yB Y_Mo_hole) 132 = .ok (.ireturn, 1) := by decide +kernel
def F_Mo_hole (n : Nat) (E : zE) (S : zS) (a0 : Nat) (x1 : Int32) (x2 : Int32) (x3 : Int32) (M : zH) : Option (Int32 × zH) :=
  (zpI S M a0 11 0 0).bind fun m1 =>
  (F_Mo_isRing n E S x1 m1).bind fun q2 =>
  if q2.1 = true then
    (F_Mo_isField n E S x2 q2.2).bind fun q4 =>
    if q4.1 = true then
      (zgR S a0 11 3).bind fun b6 =>
      (zldI S q4.2 b6 (8 + x1)).bind fun v7 =>
      (zremI (x2 + v7) 8).bind fun v8 =>
      (zldI S q4.2 b6 (44 + x1)).bind fun v9 =>
      (F_Mo_is n E S v9 x2 q4.2).bind fun q10 =>
      if x3 = 0 then
        (zldI S q10.2 b6 ((12 + (8 * x1)) + x2)).bind fun v12 =>
        some (v12, q10.2)
      else
      if x3 = 1 then
        if (bI q10.1) = 0 then
          some (0, q10.2)
        else
          some (1, q10.2)
      else
      if x3 = 2 then
        some (v8, q10.2)
      else
      if x3 = 3 then
        if (bI q10.1) = 0 then
          (F_Mo_runsOf n E S a0 x1 x2 v8 q10.2).bind fun q18 =>
          some (q18.1, q18.2)
        else
          some (0, q10.2)
      else
        some ((-1), q10.2)
    else
      some ((-1), q4.2)
  else
    some ((-1), q2.2)
theorem K_Mo_hole (n : Nat) (E : zE) (S : zS) (a0 : Nat) (x1 : Int32) (x2 : Int32) (x3 : Int32) (M : zH) (r : Int32) (M' : zH)  (h : F_Mo_hole n E S a0 x1 x2 x3 M = some (r, M')) : zG E Y_Mo_hole (some (.int r), S, M') 0 [(0, .ref a0), (1, .int x1), (2, .int x2), (3, .int x3)] [] S M 0 0 := by
  unfold F_Mo_hole at h
  refine zi_aload_n 0 d_Mo_hole_0 rfl ?_
  refine zi_iconst 0 d_Mo_hole_1 rfl ?_
  obtain ⟨m1, em1, h⟩ := zbind h
  refine zo_putI 5 zkd_11 0 d_Mo_hole_2 em1 rfl rfl rfl tw_1231 rfl ?_
  refine zi_iload_n 1 d_Mo_hole_5 rfl ?_
  obtain ⟨q2, eq2, h⟩ := zbind h
  refine zo_stat (k' := 0) (n' := 0) 9 [.int x1] [] [.int (bI q2.1)] (C_Mo_isRing n E S x1 m1 q2.1 q2.2 eq2) d_Mo_hole_6 tw_1436 tw_1434 tw_1435 tw_13 dd_Mo_isRing ⟨Nat.le_of_ble_eq_true rfl, Nat.le_of_ble_eq_true rfl, Nat.le_of_ble_eq_true rfl, Nat.le_of_ble_eq_true rfl⟩ (Nat.le_of_ble_eq_true rfl) rfl rfl rfl rfl ?_
  refine zo_ifeqB d_Mo_hole_9 rfl 12 rfl (fun c3 => ?_) (fun c3 => ?_)
  · rw [if_neg c3] at h
    refine zi_iconst (-1) d_Mo_hole_19 rfl ?_
    cases h
    exact zo_ret d_Mo_hole_20 (Nat.le_of_ble_eq_true rfl) (Nat.le_of_ble_eq_true rfl) rfl
  · rw [if_pos c3] at h
    refine zi_iload_n 2 d_Mo_hole_12 rfl ?_
    obtain ⟨q4, eq4, h⟩ := zbind h
    refine zo_stat (k' := 0) (n' := 0) 16 [.int x2] [] [.int (bI q4.1)] (C_Mo_isField n E S x2 q2.2 q4.1 q4.2 eq4) d_Mo_hole_13 tw_1440 tw_1438 tw_1439 tw_13 dd_Mo_isField ⟨Nat.le_of_ble_eq_true rfl, Nat.le_of_ble_eq_true rfl, Nat.le_of_ble_eq_true rfl, Nat.le_of_ble_eq_true rfl⟩ (Nat.le_of_ble_eq_true rfl) rfl rfl rfl rfl ?_
    refine zo_ifneB d_Mo_hole_16 rfl 19 rfl (fun c5 => ?_) (fun c5 => ?_)
    · rw [if_pos c5] at h
      refine zi_iload_n 2 d_Mo_hole_21 rfl ?_
      refine zi_aload_n 0 d_Mo_hole_22 rfl ?_
      obtain ⟨b6, eb6, h⟩ := zbind h
      refine zo_getR 26 zkd_11 3 d_Mo_hole_23 eb6 rfl tw_1234 rfl ?_
      refine zi_bipush 8 d_Mo_hole_26 rfl ?_
      refine zi_iload_n 1 d_Mo_hole_28 rfl ?_
      refine zi_iadd d_Mo_hole_29 ?_
      obtain ⟨v7, ev7, h⟩ := zbind h
      refine zo_iald 31 d_Mo_hole_30 ev7 rfl ?_
      refine zi_iadd d_Mo_hole_31 ?_
      refine zi_bipush 8 d_Mo_hole_32 rfl ?_
      obtain ⟨v8, ev8, h⟩ := zbind h
      refine zo_irem 35 d_Mo_hole_34 ev8 rfl ?_
      refine zi_istore [(4, .int v8), (0, .ref a0), (1, .int x1), (2, .int x2), (3, .int x3)] d_Mo_hole_35 (by decide) rfl ?_
      refine zi_aload_n 1 d_Mo_hole_37 rfl ?_
      refine zo_getR 41 zkd_11 3 d_Mo_hole_38 eb6 rfl tw_1234 rfl ?_
      refine zi_bipush 44 d_Mo_hole_41 rfl ?_
      refine zi_iload_n 2 d_Mo_hole_43 rfl ?_
      refine zi_iadd d_Mo_hole_44 ?_
      obtain ⟨v9, ev9, h⟩ := zbind h
      refine zo_iald 46 d_Mo_hole_45 ev9 rfl ?_
      refine zi_iload_n 3 d_Mo_hole_46 rfl ?_
      obtain ⟨q10, eq10, h⟩ := zbind h
      refine zo_stat (k' := 0) (n' := 0) 50 [.int v9, .int x2] [] [.int (bI q10.1)] (C_Mo_is n E S v9 x2 q4.2 q10.1 q10.2 eq10) d_Mo_hole_47 tw_1444 tw_1442 tw_1443 tw_13 dd_Mo_is ⟨Nat.le_of_ble_eq_true rfl, Nat.le_of_ble_eq_true rfl, Nat.le_of_ble_eq_true rfl, Nat.le_of_ble_eq_true rfl⟩ (Nat.le_of_ble_eq_true rfl) rfl rfl rfl rfl ?_
      refine zi_istore [(5, .int (bI q10.1)), (4, .int v8), (0, .ref a0), (1, .int x1), (2, .int x2), (3, .int x3)] d_Mo_hole_50 (by decide) rfl ?_
      refine zi_iload_n 5 d_Mo_hole_52 rfl ?_
      by_cases c11 : x3 = 0
      · rw [if_pos c11] at h
        refine zo_tab (tgt := 84) 0 d_Mo_hole_53 c11 (by decide) (by decide) rfl rfl ?_
        refine zi_aload_n 2 d_Mo_hole_84 rfl ?_
        refine zo_getR 88 zkd_11 3 d_Mo_hole_85 eb6 rfl tw_1234 rfl ?_
        refine zi_bipush 12 d_Mo_hole_88 rfl ?_
        refine zi_bipush 8 d_Mo_hole_90 rfl ?_
        refine zi_iload_n 3 d_Mo_hole_92 rfl ?_
        refine zi_imul d_Mo_hole_93 ?_
        refine zi_iadd d_Mo_hole_94 ?_
        refine zi_iload_n 4 d_Mo_hole_95 rfl ?_
        refine zi_iadd d_Mo_hole_96 ?_
        obtain ⟨v12, ev12, h⟩ := zbind h
        refine zo_iald 98 d_Mo_hole_97 ev12 rfl ?_
        cases h
        exact zo_ret d_Mo_hole_98 (Nat.le_of_ble_eq_true rfl) (Nat.le_of_ble_eq_true rfl) rfl
      rw [if_neg c11] at h
      by_cases c13 : x3 = 1
      · rw [if_pos c13] at h
        refine zo_tab (tgt := 99) 1 d_Mo_hole_53 c13 (by decide) (by decide) rfl rfl ?_
        refine zi_iload 0 d_Mo_hole_99 rfl ?_
        refine zi_if_eq (tgt := 108) d_Mo_hole_101 rfl (fun c14 => ?_) (fun c14 => ?_)
        · rw [if_pos c14] at h
          refine zi_iconst 0 d_Mo_hole_108 rfl ?_
          cases h
          exact zo_ret d_Mo_hole_109 (Nat.le_of_ble_eq_true rfl) (Nat.le_of_ble_eq_true rfl) rfl
        · rw [if_neg c14] at h
          refine zi_iconst 1 d_Mo_hole_104 rfl ?_
          refine zi_goto (tgt := 109) d_Mo_hole_105 rfl ?_
          cases h
          exact zo_ret d_Mo_hole_109 (Nat.le_of_ble_eq_true rfl) (Nat.le_of_ble_eq_true rfl) rfl
      rw [if_neg c13] at h
      by_cases c15 : x3 = 2
      · rw [if_pos c15] at h
        refine zo_tab (tgt := 110) 2 d_Mo_hole_53 c15 (by decide) (by decide) rfl rfl ?_
        refine zi_iload 1 d_Mo_hole_110 rfl ?_
        cases h
        exact zo_ret d_Mo_hole_112 (Nat.le_of_ble_eq_true rfl) (Nat.le_of_ble_eq_true rfl) rfl
      rw [if_neg c15] at h
      by_cases c16 : x3 = 3
      · rw [if_pos c16] at h
        refine zo_tab (tgt := 113) 3 d_Mo_hole_53 c16 (by decide) (by decide) rfl rfl ?_
        refine zi_iload 0 d_Mo_hole_113 rfl ?_
        refine zi_if_eq (tgt := 122) d_Mo_hole_115 rfl (fun c17 => ?_) (fun c17 => ?_)
        · rw [if_pos c17] at h
          refine zi_aload_n 2 d_Mo_hole_122 rfl ?_
          refine zi_iload_n 3 d_Mo_hole_123 rfl ?_
          refine zi_iload_n 4 d_Mo_hole_124 rfl ?_
          refine zi_iload 1 d_Mo_hole_125 rfl ?_
          obtain ⟨q18, eq18, h⟩ := zbind h
          refine zo_virt (k' := 0) (n' := 0) 130 [.int x1, .int x2, .int v8] [] [.int q18.1] zkd_11 (zgR_s eb6).1 (C_Mo_runsOf n E S a0 x1 x2 v8 q10.2 q18.1 q18.2 eq18) d_Mo_hole_127 tw_1448 tw_1445 tw_1447 ts_39 tw_13 dd_Mo_runsOf ⟨Nat.le_of_ble_eq_true rfl, Nat.le_of_ble_eq_true rfl, Nat.le_of_ble_eq_true rfl, Nat.le_of_ble_eq_true rfl⟩ (Nat.le_of_ble_eq_true rfl) rfl rfl rfl rfl ?_
          cases h
          exact zo_ret d_Mo_hole_130 (Nat.le_of_ble_eq_true rfl) (Nat.le_of_ble_eq_true rfl) rfl
        · rw [if_neg c17] at h
          refine zi_iconst 0 d_Mo_hole_118 rfl ?_
          refine zi_goto (tgt := 130) d_Mo_hole_119 rfl ?_
          cases h
          exact zo_ret d_Mo_hole_130 (Nat.le_of_ble_eq_true rfl) (Nat.le_of_ble_eq_true rfl) rfl
      rw [if_neg c16] at h
      refine zo_tabP (tgt := 131) 0 4 d_Mo_hole_53 rfl rfl (fun j hj => by match j, hj with | 0, _ => exact c11  | 1, _ => exact c13  | 2, _ => exact c15  | 3, _ => exact c16 | j + 4, hj => exact absurd hj (by omega)) rfl ?_
      refine zi_iconst (-1) d_Mo_hole_131 rfl ?_
      cases h
      exact zo_ret d_Mo_hole_132 (Nat.le_of_ble_eq_true rfl) (Nat.le_of_ble_eq_true rfl) rfl
    · rw [if_neg c5] at h
      refine zi_iconst (-1) d_Mo_hole_19 rfl ?_
      cases h
      exact zo_ret d_Mo_hole_20 (Nat.le_of_ble_eq_true rfl) (Nat.le_of_ble_eq_true rfl) rfl
theorem C_Mo_hole (n : Nat) (E : zE) (S : zS) (a0 : Nat) (x1 : Int32) (x2 : Int32) (x3 : Int32) (M : zH) (r : Int32) (M' : zH) (h : F_Mo_hole n E S a0 x1 x2 x3 M = some (r, M')) : zC E Y_Mo_hole [.ref a0, .int x1, .int x2, .int x3] S M (some (.int r), S, M') :=
  zC.of (Or.inl (show plainName "NightColanderModel" = true by decide)) (Nat.le_of_ble_eq_true rfl) (trivial) (K_Mo_hole n E S a0 x1 x2 x3 M r M' h)
theorem d_Mo_change_0 : decode (yB Y_Mo_change) 0 = .ok (.aload_n 0, 1) := by decide +kernel
theorem d_Mo_change_1 : decode (yB Y_Mo_change) 1 = .ok (.getfield 13, 3) := by decide +kernel
theorem d_Mo_change_4 : decode (yB Y_Mo_change) 4 = .ok (.iload_n 1, 1) := by decide +kernel
theorem d_Mo_change_5 : decode (yB Y_Mo_change) 5 = .ok (.iaload, 1) := by decide +kernel
theorem d_Mo_change_6 : decode (yB Y_Mo_change) 6 = .ok (.istore_n 3, 1) := by decide +kernel
theorem d_Mo_change_7 : decode (yB Y_Mo_change) 7 = .ok (.aload_n 0, 1) := by decide +kernel
theorem d_Mo_change_8 : decode (yB Y_Mo_change) 8 = .ok (.getfield 13, 3) := by decide +kernel
theorem d_Mo_change_11 : decode (yB Y_Mo_change) 11 = .ok (.iload_n 1, 1) := by decide +kernel
theorem d_Mo_change_12 : decode (yB Y_Mo_change) 12 = .ok (.iload_n 2, 1) := by decide +kernel
theorem d_Mo_change_13 : decode (yB Y_Mo_change) 13 = .ok (.iastore, 1) := by decide +kernel
theorem d_Mo_change_14 : decode (yB Y_Mo_change) 14 = .ok (.aload_n 0, 1) := by decide +kernel
theorem d_Mo_change_15 : decode (yB Y_Mo_change) 15 = .ok (.iconst 0, 1) := by decide +kernel
theorem d_Mo_change_16 : decode (yB Y_Mo_change) 16 = .ok (.putfield 159, 3) := by decide +kernel
theorem d_Mo_change_19 : decode (yB Y_Mo_change) 19 = .ok (.iload_n 3, 1) := by decide +kernel
theorem d_Mo_change_20 : decode (yB Y_Mo_change) 20 = .ok (.ireturn, 1) := by decide +kernel
def F_Mo_change (n : Nat) (E : zE) (S : zS) (a0 : Nat) (x1 : Int32) (x2 : Int32) (M : zH) : Option (Int32 × zH) :=
  (zgR S a0 11 3).bind fun b1 =>
  (zldI S M b1 x1).bind fun v2 =>
  (zstI S M b1 x1 x2).bind fun m3 =>
  (zpI S m3 a0 11 1 0).bind fun m4 =>
  some (v2, m4)
theorem K_Mo_change (n : Nat) (E : zE) (S : zS) (a0 : Nat) (x1 : Int32) (x2 : Int32) (M : zH) (r : Int32) (M' : zH)  (h : F_Mo_change n E S a0 x1 x2 M = some (r, M')) : zG E Y_Mo_change (some (.int r), S, M') 0 [(0, .ref a0), (1, .int x1), (2, .int x2)] [] S M 0 0 := by
  unfold F_Mo_change at h
  refine zi_aload_n 0 d_Mo_change_0 rfl ?_
  obtain ⟨b1, eb1, h⟩ := zbind h
  refine zo_getR 4 zkd_11 3 d_Mo_change_1 eb1 rfl tw_1234 rfl ?_
  refine zi_iload_n 1 d_Mo_change_4 rfl ?_
  obtain ⟨v2, ev2, h⟩ := zbind h
  refine zo_iald 6 d_Mo_change_5 ev2 rfl ?_
  refine zi_istore_n [(3, .int v2), (0, .ref a0), (1, .int x1), (2, .int x2)] d_Mo_change_6 (by decide) rfl ?_
  refine zi_aload_n 1 d_Mo_change_7 rfl ?_
  refine zo_getR 11 zkd_11 3 d_Mo_change_8 eb1 rfl tw_1234 rfl ?_
  refine zi_iload_n 2 d_Mo_change_11 rfl ?_
  refine zi_iload_n 3 d_Mo_change_12 rfl ?_
  obtain ⟨m3, em3, h⟩ := zbind h
  refine zo_iast 14 d_Mo_change_13 em3 rfl ?_
  refine zi_aload_n 1 d_Mo_change_14 rfl ?_
  refine zi_iconst 0 d_Mo_change_15 rfl ?_
  obtain ⟨m4, em4, h⟩ := zbind h
  refine zo_putI 19 zkd_11 1 d_Mo_change_16 em4 rfl rfl rfl tw_1232 rfl ?_
  refine zi_iload_n 0 d_Mo_change_19 rfl ?_
  cases h
  exact zo_ret d_Mo_change_20 (Nat.le_of_ble_eq_true rfl) (Nat.le_of_ble_eq_true rfl) rfl
theorem C_Mo_change (n : Nat) (E : zE) (S : zS) (a0 : Nat) (x1 : Int32) (x2 : Int32) (M : zH) (r : Int32) (M' : zH) (h : F_Mo_change n E S a0 x1 x2 M = some (r, M')) : zC E Y_Mo_change [.ref a0, .int x1, .int x2] S M (some (.int r), S, M') :=
  zC.of (Or.inl (show plainName "NightColanderModel" = true by decide)) (Nat.le_of_ble_eq_true rfl) (trivial) (K_Mo_change n E S a0 x1 x2 M r M' h)
theorem d_Mo_turn_0 : decode (yB Y_Mo_turn) 0 = .ok (.aload_n 0, 1) := by decide +kernel
theorem d_Mo_turn_1 : decode (yB Y_Mo_turn) 1 = .ok (.iconst 0, 1) := by decide +kernel
theorem d_Mo_turn_2 : decode (yB Y_Mo_turn) 2 = .ok (.putfield 156, 3) := by decide +kernel
theorem d_Mo_turn_5 : decode (yB Y_Mo_turn) 5 = .ok (.iload_n 1, 1) := by decide +kernel
theorem d_Mo_turn_6 : decode (yB Y_Mo_turn) 6 = .ok (.invokestatic 190, 3) := by decide +kernel
theorem d_Mo_turn_9 : decode (yB Y_Mo_turn) 9 = .ok (.ifCond .eq 10, 3) := by decide +kernel
theorem d_Mo_turn_12 : decode (yB Y_Mo_turn) 12 = .ok (.iload_n 2, 1) := by decide +kernel
theorem d_Mo_turn_13 : decode (yB Y_Mo_turn) 13 = .ok (.invokestatic 194, 3) := by decide +kernel
theorem d_Mo_turn_16 : decode (yB Y_Mo_turn) 16 = .ok (.ifCond .ne 9, 3) := by decide +kernel
theorem d_Mo_turn_19 : decode (yB Y_Mo_turn) 19 = .ok (.aload_n 0, 1) := by decide +kernel
theorem d_Mo_turn_20 : decode (yB Y_Mo_turn) 20 = .ok (.iconst (-1), 1) := by decide +kernel
theorem d_Mo_turn_21 : decode (yB Y_Mo_turn) 21 = .ok (.invokevirtual 165, 3) := by decide +kernel
theorem d_Mo_turn_24 : decode (yB Y_Mo_turn) 24 = .ok (.ireturn, 1) := by decide +kernel
theorem d_Mo_turn_25 : decode (yB Y_Mo_turn) 25 = .ok (.aload_n 0, 1) := by decide +kernel
theorem d_Mo_turn_26 : decode (yB Y_Mo_turn) 26 = .ok (.iconst 0, 1) := by decide +kernel
theorem d_Mo_turn_27 : decode (yB Y_Mo_turn) 27 = .ok (.putfield 162, 3) := by decide +kernel
theorem d_Mo_turn_30 : decode (yB Y_Mo_turn) 30 = .ok (.aload_n 0, 1) := by decide +kernel
theorem d_Mo_turn_31 : decode (yB Y_Mo_turn) 31 = .ok (.bipush 8, 2) := by decide +kernel
theorem d_Mo_turn_33 : decode (yB Y_Mo_turn) 33 = .ok (.iload_n 1, 1) := by decide +kernel
theorem d_Mo_turn_34 : decode (yB Y_Mo_turn) 34 = .ok (.iadd, 1) := by decide +kernel
theorem d_Mo_turn_35 : decode (yB Y_Mo_turn) 35 = .ok (.iload_n 2, 1) := by decide +kernel
theorem d_Mo_turn_36 : decode (yB Y_Mo_turn) 36 = .ok (.invokevirtual 205, 3) := by decide +kernel
theorem d_Mo_turn_39 : decode (yB Y_Mo_turn) 39 = .ok (.ireturn, 1) := by decide +kernel
def F_Mo_turn_b19 (n : Nat) (E : zE) (S : zS) (a0 : Nat) (M : zH) : Option (Int32 × zH) :=
  (zck S a0 11).bind fun u1 =>
  (F_Mo_tell n E S a0 (-1) M).bind fun q2 =>
  some (q2.1, q2.2)
def F_Mo_turn (n : Nat) (E : zE) (S : zS) (a0 : Nat) (x1 : Int32) (x2 : Int32) (M : zH) : Option (Int32 × zH) :=
  (zpI S M a0 11 0 0).bind fun m3 =>
  (F_Mo_isRing n E S x1 m3).bind fun q4 =>
  if q4.1 = true then
    (F_Mo_isField n E S x2 q4.2).bind fun q6 =>
    if q6.1 = true then
      (zpI S q6.2 a0 11 8 0).bind fun m8 =>
      (zck S a0 11).bind fun u9 =>
      (F_Mo_change n E S a0 (8 + x1) x2 m8).bind fun q10 =>
      some (q10.1, q10.2)
    else
      F_Mo_turn_b19 n E S a0 q6.2
  else
    F_Mo_turn_b19 n E S a0 q4.2
theorem K_Mo_turn_b19 (n : Nat) (E : zE) (S : zS) (a0 : Nat) (M : zH) (r : Int32) (M' : zH)  (h : F_Mo_turn_b19 n E S a0 M = some (r, M')) : zG E Y_Mo_turn (some (.int r), S, M') 19 [(0, .ref a0)] [] S M 0 0 := by
  unfold F_Mo_turn_b19 at h
  refine zi_aload_n 0 d_Mo_turn_19 rfl ?_
  refine zi_iconst (-1) d_Mo_turn_20 rfl ?_
  obtain ⟨u1, eu1, h⟩ := zbind h
  obtain ⟨q2, eq2, h⟩ := zbind h
  refine zo_virt (k' := 0) (n' := 0) 24 [.int (-1)] [] [.int q2.1] zkd_11 (zck_s eu1) (C_Mo_tell n E S a0 (-1) M q2.1 q2.2 eq2) d_Mo_turn_21 tw_1410 tw_1407 tw_1409 ts_36 tw_13 dd_Mo_tell ⟨Nat.le_of_ble_eq_true rfl, Nat.le_of_ble_eq_true rfl, Nat.le_of_ble_eq_true rfl, Nat.le_of_ble_eq_true rfl⟩ (Nat.le_of_ble_eq_true rfl) rfl rfl rfl rfl ?_
  cases h
  exact zo_ret d_Mo_turn_24 (Nat.le_of_ble_eq_true rfl) (Nat.le_of_ble_eq_true rfl) rfl
theorem K_Mo_turn (n : Nat) (E : zE) (S : zS) (a0 : Nat) (x1 : Int32) (x2 : Int32) (M : zH) (r : Int32) (M' : zH)  (h : F_Mo_turn n E S a0 x1 x2 M = some (r, M')) : zG E Y_Mo_turn (some (.int r), S, M') 0 [(0, .ref a0), (1, .int x1), (2, .int x2)] [] S M 0 0 := by
  unfold F_Mo_turn at h
  refine zi_aload_n 0 d_Mo_turn_0 rfl ?_
  refine zi_iconst 0 d_Mo_turn_1 rfl ?_
  obtain ⟨m3, em3, h⟩ := zbind h
  refine zo_putI 5 zkd_11 0 d_Mo_turn_2 em3 rfl rfl rfl tw_1231 rfl ?_
  refine zi_iload_n 1 d_Mo_turn_5 rfl ?_
  obtain ⟨q4, eq4, h⟩ := zbind h
  refine zo_stat (k' := 0) (n' := 0) 9 [.int x1] [] [.int (bI q4.1)] (C_Mo_isRing n E S x1 m3 q4.1 q4.2 eq4) d_Mo_turn_6 tw_1436 tw_1434 tw_1435 tw_13 dd_Mo_isRing ⟨Nat.le_of_ble_eq_true rfl, Nat.le_of_ble_eq_true rfl, Nat.le_of_ble_eq_true rfl, Nat.le_of_ble_eq_true rfl⟩ (Nat.le_of_ble_eq_true rfl) rfl rfl rfl rfl ?_
  refine zo_ifeqB d_Mo_turn_9 rfl 12 rfl (fun c5 => ?_) (fun c5 => ?_)
  · rw [if_neg c5] at h
    refine zi_lo [(0, .ref a0)] [0] rfl ?_
    exact K_Mo_turn_b19 n E S a0 q4.2 r M'  h
  · rw [if_pos c5] at h
    refine zi_iload_n 2 d_Mo_turn_12 rfl ?_
    obtain ⟨q6, eq6, h⟩ := zbind h
    refine zo_stat (k' := 0) (n' := 0) 16 [.int x2] [] [.int (bI q6.1)] (C_Mo_isField n E S x2 q4.2 q6.1 q6.2 eq6) d_Mo_turn_13 tw_1440 tw_1438 tw_1439 tw_13 dd_Mo_isField ⟨Nat.le_of_ble_eq_true rfl, Nat.le_of_ble_eq_true rfl, Nat.le_of_ble_eq_true rfl, Nat.le_of_ble_eq_true rfl⟩ (Nat.le_of_ble_eq_true rfl) rfl rfl rfl rfl ?_
    refine zo_ifneB d_Mo_turn_16 rfl 19 rfl (fun c7 => ?_) (fun c7 => ?_)
    · rw [if_pos c7] at h
      refine zi_aload_n 0 d_Mo_turn_25 rfl ?_
      refine zi_iconst 0 d_Mo_turn_26 rfl ?_
      obtain ⟨m8, em8, h⟩ := zbind h
      refine zo_putI 30 zkd_11 8 d_Mo_turn_27 em8 rfl rfl rfl tw_1239 rfl ?_
      refine zi_aload_n 0 d_Mo_turn_30 rfl ?_
      refine zi_bipush 8 d_Mo_turn_31 rfl ?_
      refine zi_iload_n 1 d_Mo_turn_33 rfl ?_
      refine zi_iadd d_Mo_turn_34 ?_
      refine zi_iload_n 2 d_Mo_turn_35 rfl ?_
      obtain ⟨u9, eu9, h⟩ := zbind h
      obtain ⟨q10, eq10, h⟩ := zbind h
      refine zo_virt (k' := 0) (n' := 0) 39 [.int (8 + x1), .int x2] [] [.int q10.1] zkd_11 (zck_s eu9) (C_Mo_change n E S a0 (8 + x1) x2 m8 q10.1 q10.2 eq10) d_Mo_turn_36 tw_1482 tw_1479 tw_1481 ts_45 tw_13 dd_Mo_change ⟨Nat.le_of_ble_eq_true rfl, Nat.le_of_ble_eq_true rfl, Nat.le_of_ble_eq_true rfl, Nat.le_of_ble_eq_true rfl⟩ (Nat.le_of_ble_eq_true rfl) rfl rfl rfl rfl ?_
      cases h
      exact zo_ret d_Mo_turn_39 (Nat.le_of_ble_eq_true rfl) (Nat.le_of_ble_eq_true rfl) rfl
    · rw [if_neg c7] at h
      refine zi_lo [(0, .ref a0)] [0] rfl ?_
      exact K_Mo_turn_b19 n E S a0 q6.2 r M'  h
theorem C_Mo_turn (n : Nat) (E : zE) (S : zS) (a0 : Nat) (x1 : Int32) (x2 : Int32) (M : zH) (r : Int32) (M' : zH) (h : F_Mo_turn n E S a0 x1 x2 M = some (r, M')) : zC E Y_Mo_turn [.ref a0, .int x1, .int x2] S M (some (.int r), S, M') :=
  zC.of (Or.inl (show plainName "NightColanderModel" = true by decide)) (Nat.le_of_ble_eq_true rfl) (trivial) (K_Mo_turn n E S a0 x1 x2 M r M' h)
theorem d_Mo_bucketAt_0 : decode (yB Y_Mo_bucketAt) 0 = .ok (.iconst (-1), 1) := by decide +kernel
theorem d_Mo_bucketAt_1 : decode (yB Y_Mo_bucketAt) 1 = .ok (.istore_n 2, 1) := by decide +kernel
theorem d_Mo_bucketAt_2 : decode (yB Y_Mo_bucketAt) 2 = .ok (.iconst 0, 1) := by decide +kernel
theorem d_Mo_bucketAt_3 : decode (yB Y_Mo_bucketAt) 3 = .ok (.istore_n 3, 1) := by decide +kernel
theorem d_Mo_bucketAt_4 : decode (yB Y_Mo_bucketAt) 4 = .ok (.iload_n 3, 1) := by decide +kernel
theorem d_Mo_bucketAt_5 : decode (yB Y_Mo_bucketAt) 5 = .ok (.aload_n 0, 1) := by decide +kernel
theorem d_Mo_bucketAt_6 : decode (yB Y_Mo_bucketAt) 6 = .ok (.getfield 13, 3) := by decide +kernel
theorem d_Mo_bucketAt_9 : decode (yB Y_Mo_bucketAt) 9 = .ok (.iconst 0, 1) := by decide +kernel
theorem d_Mo_bucketAt_10 : decode (yB Y_Mo_bucketAt) 10 = .ok (.iaload, 1) := by decide +kernel
theorem d_Mo_bucketAt_11 : decode (yB Y_Mo_bucketAt) 11 = .ok (.if_icmp .ge 28, 3) := by decide +kernel
theorem d_Mo_bucketAt_14 : decode (yB Y_Mo_bucketAt) 14 = .ok (.aload_n 0, 1) := by decide +kernel
theorem d_Mo_bucketAt_15 : decode (yB Y_Mo_bucketAt) 15 = .ok (.getfield 13, 3) := by decide +kernel
theorem d_Mo_bucketAt_18 : decode (yB Y_Mo_bucketAt) 18 = .ok (.bipush 51, 2) := by decide +kernel
theorem d_Mo_bucketAt_20 : decode (yB Y_Mo_bucketAt) 20 = .ok (.iload_n 3, 1) := by decide +kernel
theorem d_Mo_bucketAt_21 : decode (yB Y_Mo_bucketAt) 21 = .ok (.iadd, 1) := by decide +kernel
theorem d_Mo_bucketAt_22 : decode (yB Y_Mo_bucketAt) 22 = .ok (.iaload, 1) := by decide +kernel
theorem d_Mo_bucketAt_23 : decode (yB Y_Mo_bucketAt) 23 = .ok (.iload_n 1, 1) := by decide +kernel
theorem d_Mo_bucketAt_24 : decode (yB Y_Mo_bucketAt) 24 = .ok (.if_icmp .ne 7, 3) := by decide +kernel
theorem d_Mo_bucketAt_27 : decode (yB Y_Mo_bucketAt) 27 = .ok (.iload_n 3, 1) := by decide +kernel
theorem d_Mo_bucketAt_28 : decode (yB Y_Mo_bucketAt) 28 = .ok (.goto 4, 3) := by decide +kernel
theorem d_Mo_bucketAt_31 : decode (yB Y_Mo_bucketAt) 31 = .ok (.iload_n 2, 1) := by decide +kernel
theorem d_Mo_bucketAt_32 : decode (yB Y_Mo_bucketAt) 32 = .ok (.istore_n 2, 1) := by decide +kernel
theorem d_Mo_bucketAt_33 : decode (yB Y_Mo_bucketAt) 33 = .ok (.iinc 3 1, 3) := by decide +kernel
theorem d_Mo_bucketAt_36 : decode (yB Y_Mo_bucketAt) 36 = .ok (.goto (-32), 3) := by decide +kernel
theorem d_Mo_bucketAt_39 : decode (yB Y_Mo_bucketAt) 39 = .ok (.iload_n 2, 1) := by decide +kernel
theorem d_Mo_bucketAt_40 : decode (yB Y_Mo_bucketAt) 40 = .ok (.ireturn, 1) := by decide +kernel
def F_Mo_bucketAt_b32 (n : Nat) (E : zE) (S : zS) (r4 : Nat × Int32 × Int32 × Int32 × zH → Option (Int32 × zH)) (a0 : Nat) (x1 : Int32) (x3 : Int32) (s0 : Int32) (M : zH) : Option (Int32 × zH) :=
  r4 (a0, x1, s0, x3 + 1, M)
def F_Mo_bucketAt_L4 (n : Nat) (E : zE) (S : zS) (r4 : Nat × Int32 × Int32 × Int32 × zH → Option (Int32 × zH)) (a0 : Nat) (x1 : Int32) (x2 : Int32) (x3 : Int32) (M : zH) : Option (Int32 × zH) :=
  (zgR S a0 11 3).bind fun b1 =>
  (zldI S M b1 0).bind fun v2 =>
  if v2 ≤ x3 then
    some (x2, M)
  else
    (zldI S M b1 (51 + x3)).bind fun v4 =>
    if v4 = x1 then
      F_Mo_bucketAt_b32 n E S r4 a0 x1 x3 x3 M
    else
      F_Mo_bucketAt_b32 n E S r4 a0 x1 x3 x2 M
def F_Mo_bucketAt_b4 (n : Nat) (E : zE) (S : zS) : Nat × Int32 × Int32 × Int32 × zH → Option (Int32 × zH) := zfix (fun r4 s => F_Mo_bucketAt_L4 n E S r4 s.1 s.2.1 s.2.2.1 s.2.2.2.1 s.2.2.2.2) n
def F_Mo_bucketAt (n : Nat) (E : zE) (S : zS) (a0 : Nat) (x1 : Int32) (M : zH) : Option (Int32 × zH) :=
  F_Mo_bucketAt_b4 n E S (a0, x1, (-1), 0, M)
theorem K_Mo_bucketAt_b32 (n : Nat) (E : zE) (S : zS) (r4 : Nat × Int32 × Int32 × Int32 × zH → Option (Int32 × zH)) (a0 : Nat) (x1 : Int32) (x3 : Int32) (s0 : Int32) (M : zH) (r : Int32) (M' : zH) (hr4 : ∀ (a0 : Nat) (x1 : Int32) (x2 : Int32) (x3 : Int32) (M : zH), r4 (a0, x1, x2, x3, M) = some (r, M') → zG E Y_Mo_bucketAt (some (.int r), S, M') 4 [(0, .ref a0), (1, .int x1), (2, .int x2), (3, .int x3)] [] S M 0 0) (h : F_Mo_bucketAt_b32 n E S r4 a0 x1 x3 s0 M = some (r, M')) : zG E Y_Mo_bucketAt (some (.int r), S, M') 32 [(0, .ref a0), (1, .int x1), (3, .int x3)] [.int s0] S M 0 0 := by
  unfold F_Mo_bucketAt_b32 at h
  refine zi_istore_n [(2, .int s0), (0, .ref a0), (1, .int x1), (3, .int x3)] d_Mo_bucketAt_32 (by decide) rfl ?_
  refine zi_iinc 3 (x3 + 1) [(3, .int (x3 + 1)), (2, .int s0), (0, .ref a0), (1, .int x1)] d_Mo_bucketAt_33 rfl rfl (by decide) rfl ?_
  refine zi_goto (tgt := 4) d_Mo_bucketAt_36 rfl ?_
  refine zi_lo [(0, .ref a0), (1, .int x1), (2, .int s0), (3, .int (x3 + 1))] [2, 3, 1, 0] rfl ?_
  exact hr4 a0 x1 s0 (x3 + 1) M h
theorem K_Mo_bucketAt_L4 (n : Nat) (E : zE) (S : zS) (r4 : Nat × Int32 × Int32 × Int32 × zH → Option (Int32 × zH)) (a0 : Nat) (x1 : Int32) (x2 : Int32) (x3 : Int32) (M : zH) (r : Int32) (M' : zH) (hr4 : ∀ (a0 : Nat) (x1 : Int32) (x2 : Int32) (x3 : Int32) (M : zH), r4 (a0, x1, x2, x3, M) = some (r, M') → zG E Y_Mo_bucketAt (some (.int r), S, M') 4 [(0, .ref a0), (1, .int x1), (2, .int x2), (3, .int x3)] [] S M 0 0) (h : F_Mo_bucketAt_L4 n E S r4 a0 x1 x2 x3 M = some (r, M')) : zG E Y_Mo_bucketAt (some (.int r), S, M') 4 [(0, .ref a0), (1, .int x1), (2, .int x2), (3, .int x3)] [] S M 0 0 := by
  unfold F_Mo_bucketAt_L4 at h
  refine zi_iload_n 3 d_Mo_bucketAt_4 rfl ?_
  refine zi_aload_n 0 d_Mo_bucketAt_5 rfl ?_
  obtain ⟨b1, eb1, h⟩ := zbind h
  refine zo_getR 9 zkd_11 3 d_Mo_bucketAt_6 eb1 rfl tw_1234 rfl ?_
  refine zi_iconst 0 d_Mo_bucketAt_9 rfl ?_
  obtain ⟨v2, ev2, h⟩ := zbind h
  refine zo_iald 11 d_Mo_bucketAt_10 ev2 rfl ?_
  refine zi_icmp_ge (tgt := 39) d_Mo_bucketAt_11 rfl (fun c3 => ?_) (fun c3 => ?_)
  · rw [if_pos c3] at h
    refine zi_iload_n 2 d_Mo_bucketAt_39 rfl ?_
    cases h
    exact zo_ret d_Mo_bucketAt_40 (Nat.le_of_ble_eq_true rfl) (Nat.le_of_ble_eq_true rfl) rfl
  · rw [if_neg c3] at h
    refine zi_aload_n 0 d_Mo_bucketAt_14 rfl ?_
    refine zo_getR 18 zkd_11 3 d_Mo_bucketAt_15 eb1 rfl tw_1234 rfl ?_
    refine zi_bipush 51 d_Mo_bucketAt_18 rfl ?_
    refine zi_iload_n 3 d_Mo_bucketAt_20 rfl ?_
    refine zi_iadd d_Mo_bucketAt_21 ?_
    obtain ⟨v4, ev4, h⟩ := zbind h
    refine zo_iald 23 d_Mo_bucketAt_22 ev4 rfl ?_
    refine zi_iload_n 1 d_Mo_bucketAt_23 rfl ?_
    refine zi_icmp_ne (tgt := 31) d_Mo_bucketAt_24 rfl (fun c5 => ?_) (fun c5 => ?_)
    · rw [if_neg c5] at h
      refine zi_iload_n 2 d_Mo_bucketAt_31 rfl ?_
      refine zi_lo [(0, .ref a0), (1, .int x1), (3, .int x3)] [0, 1, 3] rfl ?_
      exact K_Mo_bucketAt_b32 n E S r4 a0 x1 x3 x2 M r M' hr4 h
    · rw [if_pos c5] at h
      refine zi_iload_n 3 d_Mo_bucketAt_27 rfl ?_
      refine zi_goto (tgt := 32) d_Mo_bucketAt_28 rfl ?_
      refine zi_lo [(0, .ref a0), (1, .int x1), (3, .int x3)] [0, 1, 3] rfl ?_
      exact K_Mo_bucketAt_b32 n E S r4 a0 x1 x3 x3 M r M' hr4 h
theorem K_Mo_bucketAt_b4 (n : Nat) (E : zE) (S : zS) (a0 : Nat) (x1 : Int32) (x2 : Int32) (x3 : Int32) (M : zH) (r : Int32) (M' : zH)  (h : F_Mo_bucketAt_b4 n E S (a0, x1, x2, x3, M) = some (r, M')) : zG E Y_Mo_bucketAt (some (.int r), S, M') 4 [(0, .ref a0), (1, .int x1), (2, .int x2), (3, .int x3)] [] S M 0 0 := by
  have key : ∀ (k : Nat) (a0 : Nat) (x1 : Int32) (x2 : Int32) (x3 : Int32) (M : zH), zfix (fun r4 s => F_Mo_bucketAt_L4 n E S r4 s.1 s.2.1 s.2.2.1 s.2.2.2.1 s.2.2.2.2) k (a0, x1, x2, x3, M) = some (r, M') → zG E Y_Mo_bucketAt (some (.int r), S, M') 4 [(0, .ref a0), (1, .int x1), (2, .int x2), (3, .int x3)] [] S M 0 0 := by
    intro k
    induction k with
    | zero => intro a0 x1 x2 x3 M h; cases h
    | succ k ih => intro a0 x1 x2 x3 M h; exact K_Mo_bucketAt_L4 n E S _ a0 x1 x2 x3 M r M'  (fun a0 x1 x2 x3 M h => ih a0 x1 x2 x3 M h) h
  exact key n a0 x1 x2 x3 M h
theorem K_Mo_bucketAt (n : Nat) (E : zE) (S : zS) (a0 : Nat) (x1 : Int32) (M : zH) (r : Int32) (M' : zH)  (h : F_Mo_bucketAt n E S a0 x1 M = some (r, M')) : zG E Y_Mo_bucketAt (some (.int r), S, M') 0 [(0, .ref a0), (1, .int x1)] [] S M 0 0 := by
  unfold F_Mo_bucketAt at h
  refine zi_iconst (-1) d_Mo_bucketAt_0 rfl ?_
  refine zi_istore_n [(2, .int (-1)), (0, .ref a0), (1, .int x1)] d_Mo_bucketAt_1 (by decide) rfl ?_
  refine zi_iconst 0 d_Mo_bucketAt_2 rfl ?_
  refine zi_istore_n [(3, .int 0), (2, .int (-1)), (0, .ref a0), (1, .int x1)] d_Mo_bucketAt_3 (by decide) rfl ?_
  refine zi_lo [(0, .ref a0), (1, .int x1), (2, .int (-1)), (3, .int 0)] [2, 3, 1, 0] rfl ?_
  exact K_Mo_bucketAt_b4 n E S a0 x1 (-1) 0 M r M'  h
theorem C_Mo_bucketAt (n : Nat) (E : zE) (S : zS) (a0 : Nat) (x1 : Int32) (M : zH) (r : Int32) (M' : zH) (h : F_Mo_bucketAt n E S a0 x1 M = some (r, M')) : zC E Y_Mo_bucketAt [.ref a0, .int x1] S M (some (.int r), S, M') :=
  zC.of (Or.inl (show plainName "NightColanderModel" = true by decide)) (Nat.le_of_ble_eq_true rfl) (trivial) (K_Mo_bucketAt n E S a0 x1 M r M' h)
theorem d_Mo_bucket_0 : decode (yB Y_Mo_bucket) 0 = .ok (.aload_n 0, 1) := by decide +kernel
theorem d_Mo_bucket_1 : decode (yB Y_Mo_bucket) 1 = .ok (.iconst 0, 1) := by decide +kernel
theorem d_Mo_bucket_2 : decode (yB Y_Mo_bucket) 2 = .ok (.putfield 156, 3) := by decide +kernel
theorem d_Mo_bucket_5 : decode (yB Y_Mo_bucket) 5 = .ok (.iload_n 1, 1) := by decide +kernel
theorem d_Mo_bucket_6 : decode (yB Y_Mo_bucket) 6 = .ok (.i2l, 1) := by decide +kernel
theorem d_Mo_bucket_7 : decode (yB Y_Mo_bucket) 7 = .ok (.lconst 1, 1) := by decide +kernel
theorem d_Mo_bucket_8 : decode (yB Y_Mo_bucket) 8 = .ok (.ldc2_w 209, 3) := by decide +kernel
theorem d_Mo_bucket_11 : decode (yB Y_Mo_bucket) 11 = .ok (.invokestatic 176, 3) := by decide +kernel
theorem d_Mo_bucket_14 : decode (yB Y_Mo_bucket) 14 = .ok (.ifCond .eq 10, 3) := by decide +kernel
theorem d_Mo_bucket_17 : decode (yB Y_Mo_bucket) 17 = .ok (.iload_n 2, 1) := by decide +kernel
theorem d_Mo_bucket_18 : decode (yB Y_Mo_bucket) 18 = .ok (.invokestatic 194, 3) := by decide +kernel
theorem d_Mo_bucket_21 : decode (yB Y_Mo_bucket) 21 = .ok (.ifCond .ne 9, 3) := by decide +kernel
theorem d_Mo_bucket_24 : decode (yB Y_Mo_bucket) 24 = .ok (.aload_n 0, 1) := by decide +kernel
theorem d_Mo_bucket_25 : decode (yB Y_Mo_bucket) 25 = .ok (.iconst (-1), 1) := by decide +kernel
theorem d_Mo_bucket_26 : decode (yB Y_Mo_bucket) 26 = .ok (.invokevirtual 165, 3) := by decide +kernel
theorem d_Mo_bucket_29 : decode (yB Y_Mo_bucket) 29 = .ok (.ireturn, 1) := by decide +kernel
theorem d_Mo_bucket_30 : decode (yB Y_Mo_bucket) 30 = .ok (.aload_n 0, 1) := by decide +kernel
theorem d_Mo_bucket_31 : decode (yB Y_Mo_bucket) 31 = .ok (.iload_n 2, 1) := by decide +kernel
theorem d_Mo_bucket_32 : decode (yB Y_Mo_bucket) 32 = .ok (.invokevirtual 211, 3) := by decide +kernel
theorem d_Mo_bucket_35 : decode (yB Y_Mo_bucket) 35 = .ok (.iconst (-1), 1) := by decide +kernel
theorem d_Mo_bucket_36 : decode (yB Y_Mo_bucket) 36 = .ok (.if_icmp .eq 10, 3) := by decide +kernel
theorem d_Mo_bucket_39 : decode (yB Y_Mo_bucket) 39 = .ok (.aload_n 0, 1) := by decide +kernel
theorem d_Mo_bucket_40 : decode (yB Y_Mo_bucket) 40 = .ok (.bipush (-3), 2) := by decide +kernel
theorem d_Mo_bucket_42 : decode (yB Y_Mo_bucket) 42 = .ok (.invokevirtual 165, 3) := by decide +kernel
theorem d_Mo_bucket_45 : decode (yB Y_Mo_bucket) 45 = .ok (.ireturn, 1) := by decide +kernel
theorem d_Mo_bucket_46 : decode (yB Y_Mo_bucket) 46 = .ok (.aload_n 0, 1) := by decide +kernel
theorem d_Mo_bucket_47 : decode (yB Y_Mo_bucket) 47 = .ok (.getfield 13, 3) := by decide +kernel
theorem d_Mo_bucket_50 : decode (yB Y_Mo_bucket) 50 = .ok (.iconst 0, 1) := by decide +kernel
theorem d_Mo_bucket_51 : decode (yB Y_Mo_bucket) 51 = .ok (.iaload, 1) := by decide +kernel
theorem d_Mo_bucket_52 : decode (yB Y_Mo_bucket) 52 = .ok (.istore_n 3, 1) := by decide +kernel
theorem d_Mo_bucket_53 : decode (yB Y_Mo_bucket) 53 = .ok (.iload_n 3, 1) := by decide +kernel
theorem d_Mo_bucket_54 : decode (yB Y_Mo_bucket) 54 = .ok (.iconst 3, 1) := by decide +kernel
theorem d_Mo_bucket_55 : decode (yB Y_Mo_bucket) 55 = .ok (.if_icmp .ne 10, 3) := by decide +kernel
theorem d_Mo_bucket_58 : decode (yB Y_Mo_bucket) 58 = .ok (.aload_n 0, 1) := by decide +kernel
theorem d_Mo_bucket_59 : decode (yB Y_Mo_bucket) 59 = .ok (.bipush (-5), 2) := by decide +kernel
theorem d_Mo_bucket_61 : decode (yB Y_Mo_bucket) 61 = .ok (.invokevirtual 165, 3) := by decide +kernel
theorem d_Mo_bucket_64 : decode (yB Y_Mo_bucket) 64 = .ok (.ireturn, 1) := by decide +kernel
theorem d_Mo_bucket_65 : decode (yB Y_Mo_bucket) 65 = .ok (.aload_n 0, 1) := by decide +kernel
theorem d_Mo_bucket_66 : decode (yB Y_Mo_bucket) 66 = .ok (.getfield 13, 3) := by decide +kernel
theorem d_Mo_bucket_69 : decode (yB Y_Mo_bucket) 69 = .ok (.bipush 54, 2) := by decide +kernel
theorem d_Mo_bucket_71 : decode (yB Y_Mo_bucket) 71 = .ok (.iload_n 3, 1) := by decide +kernel
theorem d_Mo_bucket_72 : decode (yB Y_Mo_bucket) 72 = .ok (.iadd, 1) := by decide +kernel
theorem d_Mo_bucket_73 : decode (yB Y_Mo_bucket) 73 = .ok (.iload_n 1, 1) := by decide +kernel
theorem d_Mo_bucket_74 : decode (yB Y_Mo_bucket) 74 = .ok (.iastore, 1) := by decide +kernel
theorem d_Mo_bucket_75 : decode (yB Y_Mo_bucket) 75 = .ok (.aload_n 0, 1) := by decide +kernel
theorem d_Mo_bucket_76 : decode (yB Y_Mo_bucket) 76 = .ok (.getfield 13, 3) := by decide +kernel
theorem d_Mo_bucket_79 : decode (yB Y_Mo_bucket) 79 = .ok (.bipush 48, 2) := by decide +kernel
theorem d_Mo_bucket_81 : decode (yB Y_Mo_bucket) 81 = .ok (.iload_n 3, 1) := by decide +kernel
theorem d_Mo_bucket_82 : decode (yB Y_Mo_bucket) 82 = .ok (.iadd, 1) := by decide +kernel
theorem d_Mo_bucket_83 : decode (yB Y_Mo_bucket) 83 = .ok (.iconst 0, 1) := by decide +kernel
theorem d_Mo_bucket_84 : decode (yB Y_Mo_bucket) 84 = .ok (.iastore, 1) := by decide +kernel
theorem d_Mo_bucket_85 : decode (yB Y_Mo_bucket) 85 = .ok (.aload_n 0, 1) := by decide +kernel
theorem d_Mo_bucket_86 : decode (yB Y_Mo_bucket) 86 = .ok (.getfield 13, 3) := by decide +kernel
theorem d_Mo_bucket_89 : decode (yB Y_Mo_bucket) 89 = .ok (.bipush 51, 2) := by decide +kernel
theorem d_Mo_bucket_91 : decode (yB Y_Mo_bucket) 91 = .ok (.iload_n 3, 1) := by decide +kernel
theorem d_Mo_bucket_92 : decode (yB Y_Mo_bucket) 92 = .ok (.iadd, 1) := by decide +kernel
theorem d_Mo_bucket_93 : decode (yB Y_Mo_bucket) 93 = .ok (.iload_n 2, 1) := by decide +kernel
theorem d_Mo_bucket_94 : decode (yB Y_Mo_bucket) 94 = .ok (.iastore, 1) := by decide +kernel
theorem d_Mo_bucket_95 : decode (yB Y_Mo_bucket) 95 = .ok (.aload_n 0, 1) := by decide +kernel
theorem d_Mo_bucket_96 : decode (yB Y_Mo_bucket) 96 = .ok (.getfield 13, 3) := by decide +kernel
theorem d_Mo_bucket_99 : decode (yB Y_Mo_bucket) 99 = .ok (.iconst 0, 1) := by decide +kernel
theorem d_Mo_bucket_100 : decode (yB Y_Mo_bucket) 100 = .ok (.dup2, 1) := by decide +kernel
theorem d_Mo_bucket_101 : decode (yB Y_Mo_bucket) 101 = .ok (.iaload, 1) := by decide +kernel
theorem d_Mo_bucket_102 : decode (yB Y_Mo_bucket) 102 = .ok (.iconst 1, 1) := by decide +kernel
theorem d_Mo_bucket_103 : decode (yB Y_Mo_bucket) 103 = .ok (.iadd, 1) := by decide +kernel
theorem d_Mo_bucket_104 : decode (yB Y_Mo_bucket) 104 = .ok (.iastore, 1) := by decide +kernel
theorem d_Mo_bucket_105 : decode (yB Y_Mo_bucket) 105 = .ok (.aload_n 0, 1) := by decide +kernel
theorem d_Mo_bucket_106 : decode (yB Y_Mo_bucket) 106 = .ok (.iload_n 3, 1) := by decide +kernel
theorem d_Mo_bucket_107 : decode (yB Y_Mo_bucket) 107 = .ok (.invokevirtual 180, 3) := by decide +kernel
theorem d_Mo_bucket_110 : decode (yB Y_Mo_bucket) 110 = .ok (.ireturn, 1) := by decide +kernel
def F_Mo_bucket_b24 (n : Nat) (E : zE) (S : zS) (a0 : Nat) (M : zH) : Option (Int32 × zH) :=
  (zck S a0 11).bind fun u1 =>
  (F_Mo_tell n E S a0 (-1) M).bind fun q2 =>
  some (q2.1, q2.2)
def F_Mo_bucket (n : Nat) (E : zE) (S : zS) (a0 : Nat) (x1 : Int32) (x2 : Int32) (M : zH) : Option (Int32 × zH) :=
  (zpI S M a0 11 0 0).bind fun m3 =>
  (F_Mo_in n E S x1.toInt64 1 99 m3).bind fun q4 =>
  if q4.1 = true then
    (F_Mo_isField n E S x2 q4.2).bind fun q6 =>
    if q6.1 = true then
      (zck S a0 11).bind fun u8 =>
      (F_Mo_bucketAt n E S a0 x2 q6.2).bind fun q9 =>
      if q9.1 = (-1) then
        (zgR S a0 11 3).bind fun b11 =>
        (zldI S q9.2 b11 0).bind fun v12 =>
        if v12 = 3 then
          (F_Mo_tell n E S a0 (-5) q9.2).bind fun q14 =>
          some (q14.1, q14.2)
        else
          (zstI S q9.2 b11 (54 + v12) x1).bind fun m15 =>
          (zstI S m15 b11 (48 + v12) 0).bind fun m16 =>
          (zstI S m16 b11 (51 + v12) x2).bind fun m17 =>
          (zldI S m17 b11 0).bind fun v18 =>
          (zstI S m17 b11 0 (v18 + 1)).bind fun m19 =>
          (F_Mo_lasting n E S a0 v12 m19).bind fun q20 =>
          some (q20.1, q20.2)
      else
        (F_Mo_tell n E S a0 (-3) q9.2).bind fun q21 =>
        some (q21.1, q21.2)
    else
      F_Mo_bucket_b24 n E S a0 q6.2
  else
    F_Mo_bucket_b24 n E S a0 q4.2
theorem K_Mo_bucket_b24 (n : Nat) (E : zE) (S : zS) (a0 : Nat) (M : zH) (r : Int32) (M' : zH)  (h : F_Mo_bucket_b24 n E S a0 M = some (r, M')) : zG E Y_Mo_bucket (some (.int r), S, M') 24 [(0, .ref a0)] [] S M 0 0 := by
  unfold F_Mo_bucket_b24 at h
  refine zi_aload_n 0 d_Mo_bucket_24 rfl ?_
  refine zi_iconst (-1) d_Mo_bucket_25 rfl ?_
  obtain ⟨u1, eu1, h⟩ := zbind h
  obtain ⟨q2, eq2, h⟩ := zbind h
  refine zo_virt (k' := 0) (n' := 0) 29 [.int (-1)] [] [.int q2.1] zkd_11 (zck_s eu1) (C_Mo_tell n E S a0 (-1) M q2.1 q2.2 eq2) d_Mo_bucket_26 tw_1410 tw_1407 tw_1409 ts_36 tw_13 dd_Mo_tell ⟨Nat.le_of_ble_eq_true rfl, Nat.le_of_ble_eq_true rfl, Nat.le_of_ble_eq_true rfl, Nat.le_of_ble_eq_true rfl⟩ (Nat.le_of_ble_eq_true rfl) rfl rfl rfl rfl ?_
  cases h
  exact zo_ret d_Mo_bucket_29 (Nat.le_of_ble_eq_true rfl) (Nat.le_of_ble_eq_true rfl) rfl
theorem K_Mo_bucket (n : Nat) (E : zE) (S : zS) (a0 : Nat) (x1 : Int32) (x2 : Int32) (M : zH) (r : Int32) (M' : zH)  (h : F_Mo_bucket n E S a0 x1 x2 M = some (r, M')) : zG E Y_Mo_bucket (some (.int r), S, M') 0 [(0, .ref a0), (1, .int x1), (2, .int x2)] [] S M 0 0 := by
  unfold F_Mo_bucket at h
  refine zi_aload_n 0 d_Mo_bucket_0 rfl ?_
  refine zi_iconst 0 d_Mo_bucket_1 rfl ?_
  obtain ⟨m3, em3, h⟩ := zbind h
  refine zo_putI 5 zkd_11 0 d_Mo_bucket_2 em3 rfl rfl rfl tw_1231 rfl ?_
  refine zi_iload_n 1 d_Mo_bucket_5 rfl ?_
  refine zi_i2l d_Mo_bucket_6 ?_
  refine zi_lconst 1 d_Mo_bucket_7 rfl ?_
  refine zi_ldc2 d_Mo_bucket_8 tw_1487 ?_
  obtain ⟨q4, eq4, h⟩ := zbind h
  refine zo_stat (k' := 0) (n' := 0) 14 [.long x1.toInt64, .long 1, .long 99] [] [.int (bI q4.1)] (C_Mo_in n E S x1.toInt64 1 99 m3 q4.1 q4.2 eq4) d_Mo_bucket_11 tw_1421 tw_1419 tw_1420 tw_13 dd_Mo_in ⟨Nat.le_of_ble_eq_true rfl, Nat.le_of_ble_eq_true rfl, Nat.le_of_ble_eq_true rfl, Nat.le_of_ble_eq_true rfl⟩ (Nat.le_of_ble_eq_true rfl) rfl rfl rfl rfl ?_
  refine zo_ifeqB d_Mo_bucket_14 rfl 17 rfl (fun c5 => ?_) (fun c5 => ?_)
  · rw [if_neg c5] at h
    refine zi_lo [(0, .ref a0)] [0] rfl ?_
    exact K_Mo_bucket_b24 n E S a0 q4.2 r M'  h
  · rw [if_pos c5] at h
    refine zi_iload_n 2 d_Mo_bucket_17 rfl ?_
    obtain ⟨q6, eq6, h⟩ := zbind h
    refine zo_stat (k' := 0) (n' := 0) 21 [.int x2] [] [.int (bI q6.1)] (C_Mo_isField n E S x2 q4.2 q6.1 q6.2 eq6) d_Mo_bucket_18 tw_1440 tw_1438 tw_1439 tw_13 dd_Mo_isField ⟨Nat.le_of_ble_eq_true rfl, Nat.le_of_ble_eq_true rfl, Nat.le_of_ble_eq_true rfl, Nat.le_of_ble_eq_true rfl⟩ (Nat.le_of_ble_eq_true rfl) rfl rfl rfl rfl ?_
    refine zo_ifneB d_Mo_bucket_21 rfl 24 rfl (fun c7 => ?_) (fun c7 => ?_)
    · rw [if_pos c7] at h
      refine zi_aload_n 0 d_Mo_bucket_30 rfl ?_
      refine zi_iload_n 2 d_Mo_bucket_31 rfl ?_
      obtain ⟨u8, eu8, h⟩ := zbind h
      obtain ⟨q9, eq9, h⟩ := zbind h
      refine zo_virt (k' := 0) (n' := 0) 35 [.int x2] [] [.int q9.1] zkd_11 (zck_s eu8) (C_Mo_bucketAt n E S a0 x2 q6.2 q9.1 q9.2 eq9) d_Mo_bucket_32 tw_1491 tw_1488 tw_1490 ts_46 tw_13 dd_Mo_bucketAt ⟨Nat.le_of_ble_eq_true rfl, Nat.le_of_ble_eq_true rfl, Nat.le_of_ble_eq_true rfl, Nat.le_of_ble_eq_true rfl⟩ (Nat.le_of_ble_eq_true rfl) rfl rfl rfl rfl ?_
      refine zi_iconst (-1) d_Mo_bucket_35 rfl ?_
      refine zi_icmp_eq (tgt := 46) d_Mo_bucket_36 rfl (fun c10 => ?_) (fun c10 => ?_)
      · rw [if_pos c10] at h
        refine zi_aload_n 0 d_Mo_bucket_46 rfl ?_
        obtain ⟨b11, eb11, h⟩ := zbind h
        refine zo_getR 50 zkd_11 3 d_Mo_bucket_47 eb11 rfl tw_1234 rfl ?_
        refine zi_iconst 0 d_Mo_bucket_50 rfl ?_
        obtain ⟨v12, ev12, h⟩ := zbind h
        refine zo_iald 52 d_Mo_bucket_51 ev12 rfl ?_
        refine zi_istore_n [(3, .int v12), (0, .ref a0), (1, .int x1), (2, .int x2)] d_Mo_bucket_52 (by decide) rfl ?_
        refine zi_iload_n 0 d_Mo_bucket_53 rfl ?_
        refine zi_iconst 3 d_Mo_bucket_54 rfl ?_
        refine zi_icmp_ne (tgt := 65) d_Mo_bucket_55 rfl (fun c13 => ?_) (fun c13 => ?_)
        · rw [if_neg c13] at h
          refine zi_aload_n 1 d_Mo_bucket_65 rfl ?_
          refine zo_getR 69 zkd_11 3 d_Mo_bucket_66 eb11 rfl tw_1234 rfl ?_
          refine zi_bipush 54 d_Mo_bucket_69 rfl ?_
          refine zi_iload_n 0 d_Mo_bucket_71 rfl ?_
          refine zi_iadd d_Mo_bucket_72 ?_
          refine zi_iload_n 2 d_Mo_bucket_73 rfl ?_
          obtain ⟨m15, em15, h⟩ := zbind h
          refine zo_iast 75 d_Mo_bucket_74 em15 rfl ?_
          refine zi_aload_n 1 d_Mo_bucket_75 rfl ?_
          refine zo_getR 79 zkd_11 3 d_Mo_bucket_76 eb11 rfl tw_1234 rfl ?_
          refine zi_bipush 48 d_Mo_bucket_79 rfl ?_
          refine zi_iload_n 0 d_Mo_bucket_81 rfl ?_
          refine zi_iadd d_Mo_bucket_82 ?_
          refine zi_iconst 0 d_Mo_bucket_83 rfl ?_
          obtain ⟨m16, em16, h⟩ := zbind h
          refine zo_iast 85 d_Mo_bucket_84 em16 rfl ?_
          refine zi_aload_n 1 d_Mo_bucket_85 rfl ?_
          refine zo_getR 89 zkd_11 3 d_Mo_bucket_86 eb11 rfl tw_1234 rfl ?_
          refine zi_bipush 51 d_Mo_bucket_89 rfl ?_
          refine zi_iload_n 0 d_Mo_bucket_91 rfl ?_
          refine zi_iadd d_Mo_bucket_92 ?_
          refine zi_iload_n 3 d_Mo_bucket_93 rfl ?_
          obtain ⟨m17, em17, h⟩ := zbind h
          refine zo_iast 95 d_Mo_bucket_94 em17 rfl ?_
          refine zi_aload_n 1 d_Mo_bucket_95 rfl ?_
          refine zo_getR 99 zkd_11 3 d_Mo_bucket_96 eb11 rfl tw_1234 rfl ?_
          refine zi_iconst 0 d_Mo_bucket_99 rfl ?_
          refine zi_dup2 d_Mo_bucket_100 rfl rfl ?_
          obtain ⟨v18, ev18, h⟩ := zbind h
          refine zo_iald 102 d_Mo_bucket_101 ev18 rfl ?_
          refine zi_iconst 1 d_Mo_bucket_102 rfl ?_
          refine zi_iadd d_Mo_bucket_103 ?_
          obtain ⟨m19, em19, h⟩ := zbind h
          refine zo_iast 105 d_Mo_bucket_104 em19 rfl ?_
          refine zi_aload_n 1 d_Mo_bucket_105 rfl ?_
          refine zi_iload_n 0 d_Mo_bucket_106 rfl ?_
          obtain ⟨q20, eq20, h⟩ := zbind h
          refine zo_virt (k' := 0) (n' := 0) 110 [.int v12] [] [.int q20.1] zkd_11 (zck_s eu8) (C_Mo_lasting n E S a0 v12 m19 q20.1 q20.2 eq20) d_Mo_bucket_107 tw_1429 tw_1426 tw_1428 ts_38 tw_13 dd_Mo_lasting ⟨Nat.le_of_ble_eq_true rfl, Nat.le_of_ble_eq_true rfl, Nat.le_of_ble_eq_true rfl, Nat.le_of_ble_eq_true rfl⟩ (Nat.le_of_ble_eq_true rfl) rfl rfl rfl rfl ?_
          cases h
          exact zo_ret d_Mo_bucket_110 (Nat.le_of_ble_eq_true rfl) (Nat.le_of_ble_eq_true rfl) rfl
        · rw [if_pos c13] at h
          refine zi_aload_n 1 d_Mo_bucket_58 rfl ?_
          refine zi_bipush (-5) d_Mo_bucket_59 rfl ?_
          obtain ⟨q14, eq14, h⟩ := zbind h
          refine zo_virt (k' := 0) (n' := 0) 64 [.int (-5)] [] [.int q14.1] zkd_11 (zck_s eu8) (C_Mo_tell n E S a0 (-5) q9.2 q14.1 q14.2 eq14) d_Mo_bucket_61 tw_1410 tw_1407 tw_1409 ts_36 tw_13 dd_Mo_tell ⟨Nat.le_of_ble_eq_true rfl, Nat.le_of_ble_eq_true rfl, Nat.le_of_ble_eq_true rfl, Nat.le_of_ble_eq_true rfl⟩ (Nat.le_of_ble_eq_true rfl) rfl rfl rfl rfl ?_
          cases h
          exact zo_ret d_Mo_bucket_64 (Nat.le_of_ble_eq_true rfl) (Nat.le_of_ble_eq_true rfl) rfl
      · rw [if_neg c10] at h
        refine zi_aload_n 0 d_Mo_bucket_39 rfl ?_
        refine zi_bipush (-3) d_Mo_bucket_40 rfl ?_
        obtain ⟨q21, eq21, h⟩ := zbind h
        refine zo_virt (k' := 0) (n' := 0) 45 [.int (-3)] [] [.int q21.1] zkd_11 (zck_s eu8) (C_Mo_tell n E S a0 (-3) q9.2 q21.1 q21.2 eq21) d_Mo_bucket_42 tw_1410 tw_1407 tw_1409 ts_36 tw_13 dd_Mo_tell ⟨Nat.le_of_ble_eq_true rfl, Nat.le_of_ble_eq_true rfl, Nat.le_of_ble_eq_true rfl, Nat.le_of_ble_eq_true rfl⟩ (Nat.le_of_ble_eq_true rfl) rfl rfl rfl rfl ?_
        cases h
        exact zo_ret d_Mo_bucket_45 (Nat.le_of_ble_eq_true rfl) (Nat.le_of_ble_eq_true rfl) rfl
    · rw [if_neg c7] at h
      refine zi_lo [(0, .ref a0)] [0] rfl ?_
      exact K_Mo_bucket_b24 n E S a0 q6.2 r M'  h
theorem C_Mo_bucket (n : Nat) (E : zE) (S : zS) (a0 : Nat) (x1 : Int32) (x2 : Int32) (M : zH) (r : Int32) (M' : zH) (h : F_Mo_bucket n E S a0 x1 x2 M = some (r, M')) : zC E Y_Mo_bucket [.ref a0, .int x1, .int x2] S M (some (.int r), S, M') :=
  zC.of (Or.inl (show plainName "NightColanderModel" = true by decide)) (Nat.le_of_ble_eq_true rfl) (trivial) (K_Mo_bucket n E S a0 x1 x2 M r M' h)
theorem d_Mo_setBucket_0 : decode (yB Y_Mo_setBucket) 0 = .ok (.iconst 1, 1) := by decide +kernel
theorem d_Mo_setBucket_1 : decode (yB Y_Mo_setBucket) 1 = .ok (.istore_n 2, 1) := by decide +kernel
theorem d_Mo_setBucket_2 : decode (yB Y_Mo_setBucket) 2 = .ok (.iload_n 2, 1) := by decide +kernel
theorem d_Mo_setBucket_3 : decode (yB Y_Mo_setBucket) 3 = .ok (.iconst 4, 1) := by decide +kernel
theorem d_Mo_setBucket_4 : decode (yB Y_Mo_setBucket) 4 = .ok (.if_icmp .ge 18, 3) := by decide +kernel
theorem d_Mo_setBucket_7 : decode (yB Y_Mo_setBucket) 7 = .ok (.aload_n 0, 1) := by decide +kernel
theorem d_Mo_setBucket_8 : decode (yB Y_Mo_setBucket) 8 = .ok (.getfield 103, 3) := by decide +kernel
theorem d_Mo_setBucket_11 : decode (yB Y_Mo_setBucket) 11 = .ok (.iload_n 2, 1) := by decide +kernel
theorem d_Mo_setBucket_12 : decode (yB Y_Mo_setBucket) 12 = .ok (.ldc2_w 228, 3) := by decide +kernel
theorem d_Mo_setBucket_15 : decode (yB Y_Mo_setBucket) 15 = .ok (.lastore, 1) := by decide +kernel
theorem d_Mo_setBucket_16 : decode (yB Y_Mo_setBucket) 16 = .ok (.iinc 2 1, 3) := by decide +kernel
theorem d_Mo_setBucket_19 : decode (yB Y_Mo_setBucket) 19 = .ok (.goto (-17), 3) := by decide +kernel
theorem d_Mo_setBucket_22 : decode (yB Y_Mo_setBucket) 22 = .ok (.aload_n 0, 1) := by decide +kernel
theorem d_Mo_setBucket_23 : decode (yB Y_Mo_setBucket) 23 = .ok (.getfield 103, 3) := by decide +kernel
theorem d_Mo_setBucket_26 : decode (yB Y_Mo_setBucket) 26 = .ok (.iconst 5, 1) := by decide +kernel
theorem d_Mo_setBucket_27 : decode (yB Y_Mo_setBucket) 27 = .ok (.iload_n 1, 1) := by decide +kernel
theorem d_Mo_setBucket_28 : decode (yB Y_Mo_setBucket) 28 = .ok (.i2l, 1) := by decide +kernel
theorem d_Mo_setBucket_29 : decode (yB Y_Mo_setBucket) 29 = .ok (.lastore, 1) := by decide +kernel
theorem d_Mo_setBucket_30 : decode (yB Y_Mo_setBucket) 30 = .ok (.aload_n 0, 1) := by decide +kernel
theorem d_Mo_setBucket_31 : decode (yB Y_Mo_setBucket) 31 = .ok (.getfield 103, 3) := by decide +kernel
theorem d_Mo_setBucket_34 : decode (yB Y_Mo_setBucket) 34 = .ok (.bipush 6, 2) := by decide +kernel
theorem d_Mo_setBucket_36 : decode (yB Y_Mo_setBucket) 36 = .ok (.aload_n 0, 1) := by decide +kernel
theorem d_Mo_setBucket_37 : decode (yB Y_Mo_setBucket) 37 = .ok (.getfield 13, 3) := by decide +kernel
theorem d_Mo_setBucket_40 : decode (yB Y_Mo_setBucket) 40 = .ok (.bipush 48, 2) := by decide +kernel
theorem d_Mo_setBucket_42 : decode (yB Y_Mo_setBucket) 42 = .ok (.iload_n 1, 1) := by decide +kernel
theorem d_Mo_setBucket_43 : decode (yB Y_Mo_setBucket) 43 = .ok (.iadd, 1) := by decide +kernel
theorem d_Mo_setBucket_44 : decode (yB Y_Mo_setBucket) 44 = .ok (.iaload, 1) := by decide +kernel
theorem d_Mo_setBucket_45 : decode (yB Y_Mo_setBucket) 45 = .ok (.i2l, 1) := by decide +kernel
theorem d_Mo_setBucket_46 : decode (yB Y_Mo_setBucket) 46 = .ok (.lastore, 1) := by decide +kernel
theorem d_Mo_setBucket_47 : decode (yB Y_Mo_setBucket) 47 = .ok (.return_, 1) := by decide +kernel
def F_Mo_setBucket_L2 (n : Nat) (E : zE) (S : zS) (r2 : Nat × Int32 × Int32 × zH → Option (zH)) (a0 : Nat) (x1 : Int32) (x2 : Int32) (M : zH) : Option (zH) :=
  if 4 ≤ x2 then
    (zgR S a0 11 35).bind fun b2 =>
    (zstJ S M b2 5 x1.toInt64).bind fun m3 =>
    (zgR S a0 11 3).bind fun b4 =>
    (zldI S m3 b4 (48 + x1)).bind fun v5 =>
    (zstJ S m3 b2 6 v5.toInt64).bind fun m6 =>
    some (m6)
  else
    (zgR S a0 11 35).bind fun b7 =>
    (zstJ S M b7 x2 (-1)).bind fun m8 =>
    r2 (a0, x1, x2 + 1, m8)
def F_Mo_setBucket_b2 (n : Nat) (E : zE) (S : zS) : Nat × Int32 × Int32 × zH → Option (zH) := zfix (fun r2 s => F_Mo_setBucket_L2 n E S r2 s.1 s.2.1 s.2.2.1 s.2.2.2) n
def F_Mo_setBucket (n : Nat) (E : zE) (S : zS) (a0 : Nat) (x1 : Int32) (M : zH) : Option (zH) :=
  F_Mo_setBucket_b2 n E S (a0, x1, 1, M)
theorem K_Mo_setBucket_L2 (n : Nat) (E : zE) (S : zS) (r2 : Nat × Int32 × Int32 × zH → Option (zH)) (a0 : Nat) (x1 : Int32) (x2 : Int32) (M : zH) (M' : zH) (hr2 : ∀ (a0 : Nat) (x1 : Int32) (x2 : Int32) (M : zH), r2 (a0, x1, x2, M) = some M' → zG E Y_Mo_setBucket (none, S, M') 2 [(0, .ref a0), (1, .int x1), (2, .int x2)] [] S M 0 0) (h : F_Mo_setBucket_L2 n E S r2 a0 x1 x2 M = some M') : zG E Y_Mo_setBucket (none, S, M') 2 [(0, .ref a0), (1, .int x1), (2, .int x2)] [] S M 0 0 := by
  unfold F_Mo_setBucket_L2 at h
  refine zi_iload_n 2 d_Mo_setBucket_2 rfl ?_
  refine zi_iconst 4 d_Mo_setBucket_3 rfl ?_
  refine zi_icmp_ge (tgt := 22) d_Mo_setBucket_4 rfl (fun c1 => ?_) (fun c1 => ?_)
  · rw [if_pos c1] at h
    refine zi_aload_n 0 d_Mo_setBucket_22 rfl ?_
    obtain ⟨b2, eb2, h⟩ := zbind h
    refine zo_getR 26 zkd_11 35 d_Mo_setBucket_23 eb2 rfl tw_1266 rfl ?_
    refine zi_iconst 5 d_Mo_setBucket_26 rfl ?_
    refine zi_iload_n 1 d_Mo_setBucket_27 rfl ?_
    refine zi_i2l d_Mo_setBucket_28 ?_
    obtain ⟨m3, em3, h⟩ := zbind h
    refine zo_last 30 d_Mo_setBucket_29 em3 rfl ?_
    refine zi_aload_n 0 d_Mo_setBucket_30 rfl ?_
    refine zo_getR 34 zkd_11 35 d_Mo_setBucket_31 eb2 rfl tw_1266 rfl ?_
    refine zi_bipush 6 d_Mo_setBucket_34 rfl ?_
    refine zi_aload_n 0 d_Mo_setBucket_36 rfl ?_
    obtain ⟨b4, eb4, h⟩ := zbind h
    refine zo_getR 40 zkd_11 3 d_Mo_setBucket_37 eb4 rfl tw_1234 rfl ?_
    refine zi_bipush 48 d_Mo_setBucket_40 rfl ?_
    refine zi_iload_n 1 d_Mo_setBucket_42 rfl ?_
    refine zi_iadd d_Mo_setBucket_43 ?_
    obtain ⟨v5, ev5, h⟩ := zbind h
    refine zo_iald 45 d_Mo_setBucket_44 ev5 rfl ?_
    refine zi_i2l d_Mo_setBucket_45 ?_
    obtain ⟨m6, em6, h⟩ := zbind h
    refine zo_last 47 d_Mo_setBucket_46 em6 rfl ?_
    cases h
    exact zo_ret d_Mo_setBucket_47 (Nat.le_of_ble_eq_true rfl) (Nat.le_of_ble_eq_true rfl) rfl
  · rw [if_neg c1] at h
    refine zi_aload_n 0 d_Mo_setBucket_7 rfl ?_
    obtain ⟨b7, eb7, h⟩ := zbind h
    refine zo_getR 11 zkd_11 35 d_Mo_setBucket_8 eb7 rfl tw_1266 rfl ?_
    refine zi_iload_n 2 d_Mo_setBucket_11 rfl ?_
    refine zi_ldc2 d_Mo_setBucket_12 tw_1449 ?_
    obtain ⟨m8, em8, h⟩ := zbind h
    refine zo_last 16 d_Mo_setBucket_15 em8 rfl ?_
    refine zi_iinc 2 (x2 + 1) [(2, .int (x2 + 1)), (0, .ref a0), (1, .int x1)] d_Mo_setBucket_16 rfl rfl (by decide) rfl ?_
    refine zi_goto (tgt := 2) d_Mo_setBucket_19 rfl ?_
    refine zi_lo [(0, .ref a0), (1, .int x1), (2, .int (x2 + 1))] [1, 2, 0] rfl ?_
    exact hr2 a0 x1 (x2 + 1) m8 h
theorem K_Mo_setBucket_b2 (n : Nat) (E : zE) (S : zS) (a0 : Nat) (x1 : Int32) (x2 : Int32) (M : zH) (M' : zH)  (h : F_Mo_setBucket_b2 n E S (a0, x1, x2, M) = some M') : zG E Y_Mo_setBucket (none, S, M') 2 [(0, .ref a0), (1, .int x1), (2, .int x2)] [] S M 0 0 := by
  have key : ∀ (k : Nat) (a0 : Nat) (x1 : Int32) (x2 : Int32) (M : zH), zfix (fun r2 s => F_Mo_setBucket_L2 n E S r2 s.1 s.2.1 s.2.2.1 s.2.2.2) k (a0, x1, x2, M) = some M' → zG E Y_Mo_setBucket (none, S, M') 2 [(0, .ref a0), (1, .int x1), (2, .int x2)] [] S M 0 0 := by
    intro k
    induction k with
    | zero => intro a0 x1 x2 M h; cases h
    | succ k ih => intro a0 x1 x2 M h; exact K_Mo_setBucket_L2 n E S _ a0 x1 x2 M M'  (fun a0 x1 x2 M h => ih a0 x1 x2 M h) h
  exact key n a0 x1 x2 M h
theorem K_Mo_setBucket (n : Nat) (E : zE) (S : zS) (a0 : Nat) (x1 : Int32) (M : zH) (M' : zH)  (h : F_Mo_setBucket n E S a0 x1 M = some M') : zG E Y_Mo_setBucket (none, S, M') 0 [(0, .ref a0), (1, .int x1)] [] S M 0 0 := by
  unfold F_Mo_setBucket at h
  refine zi_iconst 1 d_Mo_setBucket_0 rfl ?_
  refine zi_istore_n [(2, .int 1), (0, .ref a0), (1, .int x1)] d_Mo_setBucket_1 (by decide) rfl ?_
  refine zi_lo [(0, .ref a0), (1, .int x1), (2, .int 1)] [1, 2, 0] rfl ?_
  exact K_Mo_setBucket_b2 n E S a0 x1 1 M M'  h
theorem C_Mo_setBucket (n : Nat) (E : zE) (S : zS) (a0 : Nat) (x1 : Int32) (M : zH) (M' : zH) (h : F_Mo_setBucket n E S a0 x1 M = some M') : zC E Y_Mo_setBucket [.ref a0, .int x1] S M (none, S, M') :=
  zC.of (Or.inl (show plainName "NightColanderModel" = true by decide)) (Nat.le_of_ble_eq_true rfl) (trivial) (K_Mo_setBucket n E S a0 x1 M M' h)
theorem d_Mo_isBarred_0 : decode (yB Y_Mo_isBarred) 0 = .ok (.aload_n 0, 1) := by decide +kernel
theorem d_Mo_isBarred_1 : decode (yB Y_Mo_isBarred) 1 = .ok (.iload_n 1, 1) := by decide +kernel
theorem d_Mo_isBarred_2 : decode (yB Y_Mo_isBarred) 2 = .ok (.invokevirtual 439, 3) := by decide +kernel
theorem d_Mo_isBarred_5 : decode (yB Y_Mo_isBarred) 5 = .ok (.aload_n 0, 1) := by decide +kernel
theorem d_Mo_isBarred_6 : decode (yB Y_Mo_isBarred) 6 = .ok (.iconst 3, 1) := by decide +kernel
theorem d_Mo_isBarred_7 : decode (yB Y_Mo_isBarred) 7 = .ok (.iload_n 2, 1) := by decide +kernel
theorem d_Mo_isBarred_8 : decode (yB Y_Mo_isBarred) 8 = .ok (.lconst 0, 1) := by decide +kernel
theorem d_Mo_isBarred_9 : decode (yB Y_Mo_isBarred) 9 = .ok (.invokevirtual 431, 3) := by decide +kernel
theorem d_Mo_isBarred_12 : decode (yB Y_Mo_isBarred) 12 = .ok (.lconst 1, 1) := by decide +kernel
theorem d_Mo_isBarred_13 : decode (yB Y_Mo_isBarred) 13 = .ok (.lcmp, 1) := by decide +kernel
theorem d_Mo_isBarred_14 : decode (yB Y_Mo_isBarred) 14 = .ok (.ifCond .ne 7, 3) := by decide +kernel
theorem d_Mo_isBarred_17 : decode (yB Y_Mo_isBarred) 17 = .ok (.iconst 1, 1) := by decide +kernel
theorem d_Mo_isBarred_18 : decode (yB Y_Mo_isBarred) 18 = .ok (.goto 4, 3) := by decide +kernel
theorem d_Mo_isBarred_21 : decode (yB Y_Mo_isBarred) 21 = .ok (.iconst 0, 1) := by decide +kernel
theorem d_Mo_isBarred_22 : decode (yB Y_Mo_isBarred) 22 = .ok (.ireturn, 1) := by decide +kernel
def F_Mo_isBarred (n : Nat) (E : zE) (S : zS) (a0 : Nat) (x1 : Int32) (x2 : Int32) (M : zH) : Option (Bool × zH) :=
  (zck S a0 11).bind fun u1 =>
  (F_Mo_setBucket n E S a0 x1 M).bind fun q2 =>
  (F_Mo_tells n E S a0 3 x2 0 q2).bind fun q3 =>
  if q3.1 = 1 then
    some (true, q3.2)
  else
    some (false, q3.2)
theorem K_Mo_isBarred (n : Nat) (E : zE) (S : zS) (a0 : Nat) (x1 : Int32) (x2 : Int32) (M : zH) (r : Bool) (M' : zH)  (h : F_Mo_isBarred n E S a0 x1 x2 M = some (r, M')) : zG E Y_Mo_isBarred (some (.int (bI r)), S, M') 0 [(0, .ref a0), (1, .int x1), (2, .int x2)] [] S M 0 0 := by
  unfold F_Mo_isBarred at h
  refine zi_aload_n 0 d_Mo_isBarred_0 rfl ?_
  refine zi_iload_n 1 d_Mo_isBarred_1 rfl ?_
  obtain ⟨u1, eu1, h⟩ := zbind h
  obtain ⟨q2, eq2, h⟩ := zbind h
  refine zo_virt (k' := 0) (n' := 0) 5 [.int x1] [] [] zkd_11 (zck_s eu1) (C_Mo_setBucket n E S a0 x1 M q2 eq2) d_Mo_isBarred_2 tw_1504 tw_1501 tw_1503 ts_48 tw_13 dd_Mo_setBucket ⟨Nat.le_of_ble_eq_true rfl, Nat.le_of_ble_eq_true rfl, Nat.le_of_ble_eq_true rfl, Nat.le_of_ble_eq_true rfl⟩ (Nat.le_of_ble_eq_true rfl) rfl rfl rfl rfl ?_
  refine zi_aload_n 0 d_Mo_isBarred_5 rfl ?_
  refine zi_iconst 3 d_Mo_isBarred_6 rfl ?_
  refine zi_iload_n 2 d_Mo_isBarred_7 rfl ?_
  refine zi_lconst 0 d_Mo_isBarred_8 rfl ?_
  obtain ⟨q3, eq3, h⟩ := zbind h
  refine zo_virt (k' := 0) (n' := 0) 12 [.int 3, .int x2, .long 0] [] [.long q3.1] zkd_11 (zck_s eu1) (C_Mo_tells n E S a0 3 x2 0 q2 q3.1 q3.2 eq3) d_Mo_isBarred_9 tw_1453 tw_1450 tw_1452 ts_40 tw_13 dd_Mo_tells ⟨Nat.le_of_ble_eq_true rfl, Nat.le_of_ble_eq_true rfl, Nat.le_of_ble_eq_true rfl, Nat.le_of_ble_eq_true rfl⟩ (Nat.le_of_ble_eq_true rfl) rfl rfl rfl rfl ?_
  refine zi_lconst 1 d_Mo_isBarred_12 rfl ?_
  refine zo_lc_ne d_Mo_isBarred_13 d_Mo_isBarred_14 rfl 17 rfl (fun c4 => ?_) (fun c4 => ?_)
  · rw [if_neg c4] at h
    refine zi_iconst 0 d_Mo_isBarred_21 rfl ?_
    cases h
    exact zo_retB d_Mo_isBarred_22 (Nat.le_of_ble_eq_true rfl) (Nat.le_of_ble_eq_true rfl) rfl
  · rw [if_pos c4] at h
    refine zi_iconst 1 d_Mo_isBarred_17 rfl ?_
    refine zi_goto (tgt := 22) d_Mo_isBarred_18 rfl ?_
    cases h
    exact zo_retB d_Mo_isBarred_22 (Nat.le_of_ble_eq_true rfl) (Nat.le_of_ble_eq_true rfl) rfl
theorem C_Mo_isBarred (n : Nat) (E : zE) (S : zS) (a0 : Nat) (x1 : Int32) (x2 : Int32) (M : zH) (r : Bool) (M' : zH) (h : F_Mo_isBarred n E S a0 x1 x2 M = some (r, M')) : zC E Y_Mo_isBarred [.ref a0, .int x1, .int x2] S M (some (.int (bI r)), S, M') :=
  zC.of (Or.inl (show plainName "NightColanderModel" = true by decide)) (Nat.le_of_ble_eq_true rfl) (bI_nar r) (K_Mo_isBarred n E S a0 x1 x2 M r M' h)
theorem d_Mo_leaksOf_0 : decode (yB Y_Mo_leaksOf) 0 = .ok (.aload_n 0, 1) := by decide +kernel
theorem d_Mo_leaksOf_1 : decode (yB Y_Mo_leaksOf) 1 = .ok (.iload_n 1, 1) := by decide +kernel
theorem d_Mo_leaksOf_2 : decode (yB Y_Mo_leaksOf) 2 = .ok (.invokevirtual 439, 3) := by decide +kernel
theorem d_Mo_leaksOf_5 : decode (yB Y_Mo_leaksOf) 5 = .ok (.aload_n 0, 1) := by decide +kernel
theorem d_Mo_leaksOf_6 : decode (yB Y_Mo_leaksOf) 6 = .ok (.iconst 1, 1) := by decide +kernel
theorem d_Mo_leaksOf_7 : decode (yB Y_Mo_leaksOf) 7 = .ok (.aload_n 0, 1) := by decide +kernel
theorem d_Mo_leaksOf_8 : decode (yB Y_Mo_leaksOf) 8 = .ok (.getfield 13, 3) := by decide +kernel
theorem d_Mo_leaksOf_11 : decode (yB Y_Mo_leaksOf) 11 = .ok (.bipush 51, 2) := by decide +kernel
theorem d_Mo_leaksOf_13 : decode (yB Y_Mo_leaksOf) 13 = .ok (.iload_n 1, 1) := by decide +kernel
theorem d_Mo_leaksOf_14 : decode (yB Y_Mo_leaksOf) 14 = .ok (.iadd, 1) := by decide +kernel
theorem d_Mo_leaksOf_15 : decode (yB Y_Mo_leaksOf) 15 = .ok (.iaload, 1) := by decide +kernel
theorem d_Mo_leaksOf_16 : decode (yB Y_Mo_leaksOf) 16 = .ok (.lconst 0, 1) := by decide +kernel
theorem d_Mo_leaksOf_17 : decode (yB Y_Mo_leaksOf) 17 = .ok (.invokevirtual 431, 3) := by decide +kernel
theorem d_Mo_leaksOf_20 : decode (yB Y_Mo_leaksOf) 20 = .ok (.iconst 0, 1) := by decide +kernel
theorem d_Mo_leaksOf_21 : decode (yB Y_Mo_leaksOf) 21 = .ok (.bipush 9, 2) := by decide +kernel
theorem d_Mo_leaksOf_23 : decode (yB Y_Mo_leaksOf) 23 = .ok (.invokestatic 435, 3) := by decide +kernel
theorem d_Mo_leaksOf_26 : decode (yB Y_Mo_leaksOf) 26 = .ok (.ireturn, 1) := by decide +kernel
def F_Mo_leaksOf (n : Nat) (E : zE) (S : zS) (a0 : Nat) (x1 : Int32) (M : zH) : Option (Int32 × zH) :=
  (zck S a0 11).bind fun u1 =>
  (F_Mo_setBucket n E S a0 x1 M).bind fun q2 =>
  (zgR S a0 11 3).bind fun b3 =>
  (zldI S q2 b3 (51 + x1)).bind fun v4 =>
  (F_Mo_tells n E S a0 1 v4 0 q2).bind fun q5 =>
  (F_Mo_within n E S q5.1 0 9 q5.2).bind fun q6 =>
  some (q6.1, q6.2)
theorem K_Mo_leaksOf (n : Nat) (E : zE) (S : zS) (a0 : Nat) (x1 : Int32) (M : zH) (r : Int32) (M' : zH)  (h : F_Mo_leaksOf n E S a0 x1 M = some (r, M')) : zG E Y_Mo_leaksOf (some (.int r), S, M') 0 [(0, .ref a0), (1, .int x1)] [] S M 0 0 := by
  unfold F_Mo_leaksOf at h
  refine zi_aload_n 0 d_Mo_leaksOf_0 rfl ?_
  refine zi_iload_n 1 d_Mo_leaksOf_1 rfl ?_
  obtain ⟨u1, eu1, h⟩ := zbind h
  obtain ⟨q2, eq2, h⟩ := zbind h
  refine zo_virt (k' := 0) (n' := 0) 5 [.int x1] [] [] zkd_11 (zck_s eu1) (C_Mo_setBucket n E S a0 x1 M q2 eq2) d_Mo_leaksOf_2 tw_1504 tw_1501 tw_1503 ts_48 tw_13 dd_Mo_setBucket ⟨Nat.le_of_ble_eq_true rfl, Nat.le_of_ble_eq_true rfl, Nat.le_of_ble_eq_true rfl, Nat.le_of_ble_eq_true rfl⟩ (Nat.le_of_ble_eq_true rfl) rfl rfl rfl rfl ?_
  refine zi_aload_n 0 d_Mo_leaksOf_5 rfl ?_
  refine zi_iconst 1 d_Mo_leaksOf_6 rfl ?_
  refine zi_aload_n 0 d_Mo_leaksOf_7 rfl ?_
  obtain ⟨b3, eb3, h⟩ := zbind h
  refine zo_getR 11 zkd_11 3 d_Mo_leaksOf_8 eb3 rfl tw_1234 rfl ?_
  refine zi_bipush 51 d_Mo_leaksOf_11 rfl ?_
  refine zi_iload_n 1 d_Mo_leaksOf_13 rfl ?_
  refine zi_iadd d_Mo_leaksOf_14 ?_
  obtain ⟨v4, ev4, h⟩ := zbind h
  refine zo_iald 16 d_Mo_leaksOf_15 ev4 rfl ?_
  refine zi_lconst 0 d_Mo_leaksOf_16 rfl ?_
  obtain ⟨q5, eq5, h⟩ := zbind h
  refine zo_virt (k' := 0) (n' := 0) 20 [.int 1, .int v4, .long 0] [] [.long q5.1] zkd_11 (zck_s eu1) (C_Mo_tells n E S a0 1 v4 0 q2 q5.1 q5.2 eq5) d_Mo_leaksOf_17 tw_1453 tw_1450 tw_1452 ts_40 tw_13 dd_Mo_tells ⟨Nat.le_of_ble_eq_true rfl, Nat.le_of_ble_eq_true rfl, Nat.le_of_ble_eq_true rfl, Nat.le_of_ble_eq_true rfl⟩ (Nat.le_of_ble_eq_true rfl) rfl rfl rfl rfl ?_
  refine zi_iconst 0 d_Mo_leaksOf_20 rfl ?_
  refine zi_bipush 9 d_Mo_leaksOf_21 rfl ?_
  obtain ⟨q6, eq6, h⟩ := zbind h
  refine zo_stat (k' := 0) (n' := 0) 26 [.long q5.1, .int 0, .int 9] [] [.int q6.1] (C_Mo_within n E S q5.1 0 9 q5.2 q6.1 q6.2 eq6) d_Mo_leaksOf_23 tw_1474 tw_1472 tw_1473 tw_13 dd_Mo_within ⟨Nat.le_of_ble_eq_true rfl, Nat.le_of_ble_eq_true rfl, Nat.le_of_ble_eq_true rfl, Nat.le_of_ble_eq_true rfl⟩ (Nat.le_of_ble_eq_true rfl) rfl rfl rfl rfl ?_
  cases h
  exact zo_ret d_Mo_leaksOf_26 (Nat.le_of_ble_eq_true rfl) (Nat.le_of_ble_eq_true rfl) rfl
theorem C_Mo_leaksOf (n : Nat) (E : zE) (S : zS) (a0 : Nat) (x1 : Int32) (M : zH) (r : Int32) (M' : zH) (h : F_Mo_leaksOf n E S a0 x1 M = some (r, M')) : zC E Y_Mo_leaksOf [.ref a0, .int x1] S M (some (.int r), S, M') :=
  zC.of (Or.inl (show plainName "NightColanderModel" = true by decide)) (Nat.le_of_ble_eq_true rfl) (trivial) (K_Mo_leaksOf n E S a0 x1 M r M' h)
theorem d_Mo_paysOf_0 : decode (yB Y_Mo_paysOf) 0 = .ok (.aload_n 0, 1) := by decide +kernel
theorem d_Mo_paysOf_1 : decode (yB Y_Mo_paysOf) 1 = .ok (.iload_n 1, 1) := by decide +kernel
theorem d_Mo_paysOf_2 : decode (yB Y_Mo_paysOf) 2 = .ok (.invokevirtual 439, 3) := by decide +kernel
theorem d_Mo_paysOf_5 : decode (yB Y_Mo_paysOf) 5 = .ok (.aload_n 0, 1) := by decide +kernel
theorem d_Mo_paysOf_6 : decode (yB Y_Mo_paysOf) 6 = .ok (.iconst 2, 1) := by decide +kernel
theorem d_Mo_paysOf_7 : decode (yB Y_Mo_paysOf) 7 = .ok (.iload_n 2, 1) := by decide +kernel
theorem d_Mo_paysOf_8 : decode (yB Y_Mo_paysOf) 8 = .ok (.lconst 1, 1) := by decide +kernel
theorem d_Mo_paysOf_9 : decode (yB Y_Mo_paysOf) 9 = .ok (.invokevirtual 431, 3) := by decide +kernel
theorem d_Mo_paysOf_12 : decode (yB Y_Mo_paysOf) 12 = .ok (.iconst 0, 1) := by decide +kernel
theorem d_Mo_paysOf_13 : decode (yB Y_Mo_paysOf) 13 = .ok (.bipush 99, 2) := by decide +kernel
theorem d_Mo_paysOf_15 : decode (yB Y_Mo_paysOf) 15 = .ok (.invokestatic 435, 3) := by decide +kernel
theorem d_Mo_paysOf_18 : decode (yB Y_Mo_paysOf) 18 = .ok (.ireturn, 1) := by decide +kernel
def F_Mo_paysOf (n : Nat) (E : zE) (S : zS) (a0 : Nat) (x1 : Int32) (x2 : Int32) (M : zH) : Option (Int32 × zH) :=
  (zck S a0 11).bind fun u1 =>
  (F_Mo_setBucket n E S a0 x1 M).bind fun q2 =>
  (F_Mo_tells n E S a0 2 x2 1 q2).bind fun q3 =>
  (F_Mo_within n E S q3.1 0 99 q3.2).bind fun q4 =>
  some (q4.1, q4.2)
theorem K_Mo_paysOf (n : Nat) (E : zE) (S : zS) (a0 : Nat) (x1 : Int32) (x2 : Int32) (M : zH) (r : Int32) (M' : zH)  (h : F_Mo_paysOf n E S a0 x1 x2 M = some (r, M')) : zG E Y_Mo_paysOf (some (.int r), S, M') 0 [(0, .ref a0), (1, .int x1), (2, .int x2)] [] S M 0 0 := by
  unfold F_Mo_paysOf at h
  refine zi_aload_n 0 d_Mo_paysOf_0 rfl ?_
  refine zi_iload_n 1 d_Mo_paysOf_1 rfl ?_
  obtain ⟨u1, eu1, h⟩ := zbind h
  obtain ⟨q2, eq2, h⟩ := zbind h
  refine zo_virt (k' := 0) (n' := 0) 5 [.int x1] [] [] zkd_11 (zck_s eu1) (C_Mo_setBucket n E S a0 x1 M q2 eq2) d_Mo_paysOf_2 tw_1504 tw_1501 tw_1503 ts_48 tw_13 dd_Mo_setBucket ⟨Nat.le_of_ble_eq_true rfl, Nat.le_of_ble_eq_true rfl, Nat.le_of_ble_eq_true rfl, Nat.le_of_ble_eq_true rfl⟩ (Nat.le_of_ble_eq_true rfl) rfl rfl rfl rfl ?_
  refine zi_aload_n 0 d_Mo_paysOf_5 rfl ?_
  refine zi_iconst 2 d_Mo_paysOf_6 rfl ?_
  refine zi_iload_n 2 d_Mo_paysOf_7 rfl ?_
  refine zi_lconst 1 d_Mo_paysOf_8 rfl ?_
  obtain ⟨q3, eq3, h⟩ := zbind h
  refine zo_virt (k' := 0) (n' := 0) 12 [.int 2, .int x2, .long 1] [] [.long q3.1] zkd_11 (zck_s eu1) (C_Mo_tells n E S a0 2 x2 1 q2 q3.1 q3.2 eq3) d_Mo_paysOf_9 tw_1453 tw_1450 tw_1452 ts_40 tw_13 dd_Mo_tells ⟨Nat.le_of_ble_eq_true rfl, Nat.le_of_ble_eq_true rfl, Nat.le_of_ble_eq_true rfl, Nat.le_of_ble_eq_true rfl⟩ (Nat.le_of_ble_eq_true rfl) rfl rfl rfl rfl ?_
  refine zi_iconst 0 d_Mo_paysOf_12 rfl ?_
  refine zi_bipush 99 d_Mo_paysOf_13 rfl ?_
  obtain ⟨q4, eq4, h⟩ := zbind h
  refine zo_stat (k' := 0) (n' := 0) 18 [.long q3.1, .int 0, .int 99] [] [.int q4.1] (C_Mo_within n E S q3.1 0 99 q3.2 q4.1 q4.2 eq4) d_Mo_paysOf_15 tw_1474 tw_1472 tw_1473 tw_13 dd_Mo_within ⟨Nat.le_of_ble_eq_true rfl, Nat.le_of_ble_eq_true rfl, Nat.le_of_ble_eq_true rfl, Nat.le_of_ble_eq_true rfl⟩ (Nat.le_of_ble_eq_true rfl) rfl rfl rfl rfl ?_
  cases h
  exact zo_ret d_Mo_paysOf_18 (Nat.le_of_ble_eq_true rfl) (Nat.le_of_ble_eq_true rfl) rfl
theorem C_Mo_paysOf (n : Nat) (E : zE) (S : zS) (a0 : Nat) (x1 : Int32) (x2 : Int32) (M : zH) (r : Int32) (M' : zH) (h : F_Mo_paysOf n E S a0 x1 x2 M = some (r, M')) : zC E Y_Mo_paysOf [.ref a0, .int x1, .int x2] S M (some (.int r), S, M') :=
  zC.of (Or.inl (show plainName "NightColanderModel" = true by decide)) (Nat.le_of_ble_eq_true rfl) (trivial) (K_Mo_paysOf n E S a0 x1 x2 M r M' h)
theorem d_Mo_of_0 : decode (yB Y_Mo_of) 0 = .ok (.aload_n 0, 1) := by decide +kernel
theorem d_Mo_of_1 : decode (yB Y_Mo_of) 1 = .ok (.iconst 0, 1) := by decide +kernel
theorem d_Mo_of_2 : decode (yB Y_Mo_of) 2 = .ok (.putfield 156, 3) := by decide +kernel
theorem d_Mo_of_5 : decode (yB Y_Mo_of) 5 = .ok (.aload_n 0, 1) := by decide +kernel
theorem d_Mo_of_6 : decode (yB Y_Mo_of) 6 = .ok (.iload_n 1, 1) := by decide +kernel
theorem d_Mo_of_7 : decode (yB Y_Mo_of) 7 = .ok (.invokevirtual 214, 3) := by decide +kernel
theorem d_Mo_of_10 : decode (yB Y_Mo_of) 10 = .ok (.ifCond .eq 15, 3) := by decide +kernel
theorem d_Mo_of_13 : decode (yB Y_Mo_of) 13 = .ok (.iload_n 2, 1) := by decide +kernel
theorem d_Mo_of_14 : decode (yB Y_Mo_of) 14 = .ok (.i2l, 1) := by decide +kernel
theorem d_Mo_of_15 : decode (yB Y_Mo_of) 15 = .ok (.lconst 0, 1) := by decide +kernel
theorem d_Mo_of_16 : decode (yB Y_Mo_of) 16 = .ok (.ldc2_w 217, 3) := by decide +kernel
theorem d_Mo_of_19 : decode (yB Y_Mo_of) 19 = .ok (.invokestatic 176, 3) := by decide +kernel
theorem d_Mo_of_22 : decode (yB Y_Mo_of) 22 = .ok (.ifCond .ne 5, 3) := by decide +kernel
theorem d_Mo_of_25 : decode (yB Y_Mo_of) 25 = .ok (.iconst (-1), 1) := by decide +kernel
theorem d_Mo_of_26 : decode (yB Y_Mo_of) 26 = .ok (.ireturn, 1) := by decide +kernel
theorem d_Mo_of_27 : decode (yB Y_Mo_of) 27 = .ok (.iload_n 2, 1) := by decide +kernel
theorem d_Mo_of_28 : decode (yB Y_Mo_of) 28 = .ok (.tableswitch 87 0 4 #[36, 46, 56, 66, 72], 36) := by decide +kernel
theorem d_Mo_of_64 : decode (yB Y_Mo_of) 64 = .ok (.aload_n 0, 1) := by decide +kernel
theorem d_Mo_of_65 : decode (yB Y_Mo_of) 65 = .ok (.getfield 13, 3) := by decide +kernel
theorem d_Mo_of_68 : decode (yB Y_Mo_of) 68 = .ok (.bipush 54, 2) := by decide +kernel
theorem d_Mo_of_70 : decode (yB Y_Mo_of) 70 = .ok (.iload_n 1, 1) := by decide +kernel
theorem d_Mo_of_71 : decode (yB Y_Mo_of) 71 = .ok (.iadd, 1) := by decide +kernel
theorem d_Mo_of_72 : decode (yB Y_Mo_of) 72 = .ok (.iaload, 1) := by decide +kernel
theorem d_Mo_of_73 : decode (yB Y_Mo_of) 73 = .ok (.ireturn, 1) := by decide +kernel
theorem d_Mo_of_74 : decode (yB Y_Mo_of) 74 = .ok (.aload_n 0, 1) := by decide +kernel
theorem d_Mo_of_75 : decode (yB Y_Mo_of) 75 = .ok (.getfield 13, 3) := by decide +kernel
theorem d_Mo_of_78 : decode (yB Y_Mo_of) 78 = .ok (.bipush 48, 2) := by decide +kernel
theorem d_Mo_of_80 : decode (yB Y_Mo_of) 80 = .ok (.iload_n 1, 1) := by decide +kernel
theorem d_Mo_of_81 : decode (yB Y_Mo_of) 81 = .ok (.iadd, 1) := by decide +kernel
theorem d_Mo_of_82 : decode (yB Y_Mo_of) 82 = .ok (.iaload, 1) := by decide +kernel
theorem d_Mo_of_83 : decode (yB Y_Mo_of) 83 = .ok (.ireturn, 1) := by decide +kernel
theorem d_Mo_of_84 : decode (yB Y_Mo_of) 84 = .ok (.aload_n 0, 1) := by decide +kernel
theorem d_Mo_of_85 : decode (yB Y_Mo_of) 85 = .ok (.getfield 13, 3) := by decide +kernel
theorem d_Mo_of_88 : decode (yB Y_Mo_of) 88 = .ok (.bipush 51, 2) := by decide +kernel
theorem d_Mo_of_90 : decode (yB Y_Mo_of) 90 = .ok (.iload_n 1, 1) := by decide +kernel
theorem d_Mo_of_91 : decode (yB Y_Mo_of) 91 = .ok (.iadd, 1) := by decide +kernel
theorem d_Mo_of_92 : decode (yB Y_Mo_of) 92 = .ok (.iaload, 1) := by decide +kernel
theorem d_Mo_of_93 : decode (yB Y_Mo_of) 93 = .ok (.ireturn, 1) := by decide +kernel
theorem d_Mo_of_94 : decode (yB Y_Mo_of) 94 = .ok (.aload_n 0, 1) := by decide +kernel
theorem d_Mo_of_95 : decode (yB Y_Mo_of) 95 = .ok (.iload_n 1, 1) := by decide +kernel
theorem d_Mo_of_96 : decode (yB Y_Mo_of) 96 = .ok (.invokevirtual 219, 3) := by decide +kernel
theorem d_Mo_of_99 : decode (yB Y_Mo_of) 99 = .ok (.ireturn, 1) := by decide +kernel
theorem d_Mo_of_100 : decode (yB Y_Mo_of) 100 = .ok (.aload_n 0, 1) := by decide +kernel
theorem d_Mo_of_101 : decode (yB Y_Mo_of) 101 = .ok (.iload_n 1, 1) := by decide +kernel
theorem d_Mo_of_102 : decode (yB Y_Mo_of) 102 = .ok (.aload_n 0, 1) := by decide +kernel
theorem d_Mo_of_103 : decode (yB Y_Mo_of) 103 = .ok (.getfield 13, 3) := by decide +kernel
theorem d_Mo_of_106 : decode (yB Y_Mo_of) 106 = .ok (.bipush 51, 2) := by decide +kernel
theorem d_Mo_of_108 : decode (yB Y_Mo_of) 108 = .ok (.iload_n 1, 1) := by decide +kernel
theorem d_Mo_of_109 : decode (yB Y_Mo_of) 109 = .ok (.iadd, 1) := by decide +kernel
theorem d_Mo_of_110 : decode (yB Y_Mo_of) 110 = .ok (.iaload, 1) := by decide +kernel
theorem d_Mo_of_111 : decode (yB Y_Mo_of) 111 = .ok (.invokevirtual 222, 3) := by decide +kernel
theorem d_Mo_of_114 : decode (yB Y_Mo_of) 114 = .ok (.ireturn, 1) := by decide +kernel
theorem d_Mo_of_115 : decode (yB Y_Mo_of) 115 = .ok (.aload_n 0, 1) := by decide +kernel
theorem d_Mo_of_116 : decode (yB Y_Mo_of) 116 = .ok (.iload_n 1, 1) := by decide +kernel
theorem d_Mo_of_117 : decode (yB Y_Mo_of) 117 = .ok (.iload_n 2, 1) := by decide +kernel
theorem d_Mo_of_118 : decode (yB Y_Mo_of) 118 = .ok (.iconst 5, 1) := by decide +kernel
theorem d_Mo_of_119 : decode (yB Y_Mo_of) 119 = .ok (.isub, 1) := by decide +kernel
theorem d_Mo_of_120 : decode (yB Y_Mo_of) 120 = .ok (.invokevirtual 225, 3) := by decide +kernel
theorem d_Mo_of_123 : decode (yB Y_Mo_of) 123 = .ok (.ifCond .eq 7, 3) := by decide +kernel
theorem d_Mo_of_126 : decode (yB Y_Mo_of) 126 = .ok (.iconst 1, 1) := by decide +kernel
theorem d_Mo_of_127 : decode (yB Y_Mo_of) 127 = .ok (.goto 4, 3) := by decide +kernel
theorem d_Mo_of_130 : decode (yB Y_Mo_of) 130 = .ok (.iconst 0, 1) := by decide +kernel
theorem d_Mo_of_131 : decode (yB Y_Mo_of) 131 = .ok (.ireturn, 1) := by decide +kernel
def F_Mo_of (n : Nat) (E : zE) (S : zS) (a0 : Nat) (x1 : Int32) (x2 : Int32) (M : zH) : Option (Int32 × zH) :=
  (zpI S M a0 11 0 0).bind fun m1 =>
  (zck S a0 11).bind fun u2 =>
  (F_Mo_isBucket n E S a0 x1 m1).bind fun q3 =>
  if q3.1 = true then
    (F_Mo_in n E S x2.toInt64 0 12 q3.2).bind fun q5 =>
    if q5.1 = true then
      if x2 = 0 then
        (zgR S a0 11 3).bind fun b8 =>
        (zldI S q5.2 b8 (54 + x1)).bind fun v9 =>
        some (v9, q5.2)
      else
      if x2 = 1 then
        (zgR S a0 11 3).bind fun b11 =>
        (zldI S q5.2 b11 (48 + x1)).bind fun v12 =>
        some (v12, q5.2)
      else
      if x2 = 2 then
        (zgR S a0 11 3).bind fun b14 =>
        (zldI S q5.2 b14 (51 + x1)).bind fun v15 =>
        some (v15, q5.2)
      else
      if x2 = 3 then
        (F_Mo_leaksOf n E S a0 x1 q5.2).bind fun q17 =>
        some (q17.1, q17.2)
      else
      if x2 = 4 then
        (zgR S a0 11 3).bind fun b19 =>
        (zldI S q5.2 b19 (51 + x1)).bind fun v20 =>
        (F_Mo_paysOf n E S a0 x1 v20 q5.2).bind fun q21 =>
        some (q21.1, q21.2)
      else
        (F_Mo_isBarred n E S a0 x1 (x2 - 5) q5.2).bind fun q22 =>
        if q22.1 = true then
          some (1, q22.2)
        else
          some (0, q22.2)
    else
      some ((-1), q5.2)
  else
    some ((-1), q3.2)
theorem K_Mo_of (n : Nat) (E : zE) (S : zS) (a0 : Nat) (x1 : Int32) (x2 : Int32) (M : zH) (r : Int32) (M' : zH)  (h : F_Mo_of n E S a0 x1 x2 M = some (r, M')) : zG E Y_Mo_of (some (.int r), S, M') 0 [(0, .ref a0), (1, .int x1), (2, .int x2)] [] S M 0 0 := by
  unfold F_Mo_of at h
  refine zi_aload_n 0 d_Mo_of_0 rfl ?_
  refine zi_iconst 0 d_Mo_of_1 rfl ?_
  obtain ⟨m1, em1, h⟩ := zbind h
  refine zo_putI 5 zkd_11 0 d_Mo_of_2 em1 rfl rfl rfl tw_1231 rfl ?_
  refine zi_aload_n 0 d_Mo_of_5 rfl ?_
  refine zi_iload_n 1 d_Mo_of_6 rfl ?_
  obtain ⟨u2, eu2, h⟩ := zbind h
  obtain ⟨q3, eq3, h⟩ := zbind h
  refine zo_virt (k' := 0) (n' := 0) 10 [.int x1] [] [.int (bI q3.1)] zkd_11 (zck_s eu2) (C_Mo_isBucket n E S a0 x1 m1 q3.1 q3.2 eq3) d_Mo_of_7 tw_1465 tw_1462 tw_1464 ts_43 tw_13 dd_Mo_isBucket ⟨Nat.le_of_ble_eq_true rfl, Nat.le_of_ble_eq_true rfl, Nat.le_of_ble_eq_true rfl, Nat.le_of_ble_eq_true rfl⟩ (Nat.le_of_ble_eq_true rfl) rfl rfl rfl rfl ?_
  refine zo_ifeqB d_Mo_of_10 rfl 13 rfl (fun c4 => ?_) (fun c4 => ?_)
  · rw [if_neg c4] at h
    refine zi_iconst (-1) d_Mo_of_25 rfl ?_
    cases h
    exact zo_ret d_Mo_of_26 (Nat.le_of_ble_eq_true rfl) (Nat.le_of_ble_eq_true rfl) rfl
  · rw [if_pos c4] at h
    refine zi_iload_n 2 d_Mo_of_13 rfl ?_
    refine zi_i2l d_Mo_of_14 ?_
    refine zi_lconst 0 d_Mo_of_15 rfl ?_
    refine zi_ldc2 d_Mo_of_16 tw_1496 ?_
    obtain ⟨q5, eq5, h⟩ := zbind h
    refine zo_stat (k' := 0) (n' := 0) 22 [.long x2.toInt64, .long 0, .long 12] [] [.int (bI q5.1)] (C_Mo_in n E S x2.toInt64 0 12 q3.2 q5.1 q5.2 eq5) d_Mo_of_19 tw_1421 tw_1419 tw_1420 tw_13 dd_Mo_in ⟨Nat.le_of_ble_eq_true rfl, Nat.le_of_ble_eq_true rfl, Nat.le_of_ble_eq_true rfl, Nat.le_of_ble_eq_true rfl⟩ (Nat.le_of_ble_eq_true rfl) rfl rfl rfl rfl ?_
    refine zo_ifneB d_Mo_of_22 rfl 25 rfl (fun c6 => ?_) (fun c6 => ?_)
    · rw [if_pos c6] at h
      refine zi_iload_n 2 d_Mo_of_27 rfl ?_
      by_cases c7 : x2 = 0
      · rw [if_pos c7] at h
        refine zo_tab (tgt := 64) 0 d_Mo_of_28 c7 (by decide) (by decide) rfl rfl ?_
        refine zi_aload_n 0 d_Mo_of_64 rfl ?_
        obtain ⟨b8, eb8, h⟩ := zbind h
        refine zo_getR 68 zkd_11 3 d_Mo_of_65 eb8 rfl tw_1234 rfl ?_
        refine zi_bipush 54 d_Mo_of_68 rfl ?_
        refine zi_iload_n 1 d_Mo_of_70 rfl ?_
        refine zi_iadd d_Mo_of_71 ?_
        obtain ⟨v9, ev9, h⟩ := zbind h
        refine zo_iald 73 d_Mo_of_72 ev9 rfl ?_
        cases h
        exact zo_ret d_Mo_of_73 (Nat.le_of_ble_eq_true rfl) (Nat.le_of_ble_eq_true rfl) rfl
      rw [if_neg c7] at h
      by_cases c10 : x2 = 1
      · rw [if_pos c10] at h
        refine zo_tab (tgt := 74) 1 d_Mo_of_28 c10 (by decide) (by decide) rfl rfl ?_
        refine zi_aload_n 0 d_Mo_of_74 rfl ?_
        obtain ⟨b11, eb11, h⟩ := zbind h
        refine zo_getR 78 zkd_11 3 d_Mo_of_75 eb11 rfl tw_1234 rfl ?_
        refine zi_bipush 48 d_Mo_of_78 rfl ?_
        refine zi_iload_n 1 d_Mo_of_80 rfl ?_
        refine zi_iadd d_Mo_of_81 ?_
        obtain ⟨v12, ev12, h⟩ := zbind h
        refine zo_iald 83 d_Mo_of_82 ev12 rfl ?_
        cases h
        exact zo_ret d_Mo_of_83 (Nat.le_of_ble_eq_true rfl) (Nat.le_of_ble_eq_true rfl) rfl
      rw [if_neg c10] at h
      by_cases c13 : x2 = 2
      · rw [if_pos c13] at h
        refine zo_tab (tgt := 84) 2 d_Mo_of_28 c13 (by decide) (by decide) rfl rfl ?_
        refine zi_aload_n 0 d_Mo_of_84 rfl ?_
        obtain ⟨b14, eb14, h⟩ := zbind h
        refine zo_getR 88 zkd_11 3 d_Mo_of_85 eb14 rfl tw_1234 rfl ?_
        refine zi_bipush 51 d_Mo_of_88 rfl ?_
        refine zi_iload_n 1 d_Mo_of_90 rfl ?_
        refine zi_iadd d_Mo_of_91 ?_
        obtain ⟨v15, ev15, h⟩ := zbind h
        refine zo_iald 93 d_Mo_of_92 ev15 rfl ?_
        cases h
        exact zo_ret d_Mo_of_93 (Nat.le_of_ble_eq_true rfl) (Nat.le_of_ble_eq_true rfl) rfl
      rw [if_neg c13] at h
      by_cases c16 : x2 = 3
      · rw [if_pos c16] at h
        refine zo_tab (tgt := 94) 3 d_Mo_of_28 c16 (by decide) (by decide) rfl rfl ?_
        refine zi_aload_n 0 d_Mo_of_94 rfl ?_
        refine zi_iload_n 1 d_Mo_of_95 rfl ?_
        obtain ⟨q17, eq17, h⟩ := zbind h
        refine zo_virt (k' := 0) (n' := 0) 99 [.int x1] [] [.int q17.1] zkd_11 (zck_s eu2) (C_Mo_leaksOf n E S a0 x1 q5.2 q17.1 q17.2 eq17) d_Mo_of_96 tw_1500 tw_1497 tw_1499 ts_47 tw_13 dd_Mo_leaksOf ⟨Nat.le_of_ble_eq_true rfl, Nat.le_of_ble_eq_true rfl, Nat.le_of_ble_eq_true rfl, Nat.le_of_ble_eq_true rfl⟩ (Nat.le_of_ble_eq_true rfl) rfl rfl rfl rfl ?_
        cases h
        exact zo_ret d_Mo_of_99 (Nat.le_of_ble_eq_true rfl) (Nat.le_of_ble_eq_true rfl) rfl
      rw [if_neg c16] at h
      by_cases c18 : x2 = 4
      · rw [if_pos c18] at h
        refine zo_tab (tgt := 100) 4 d_Mo_of_28 c18 (by decide) (by decide) rfl rfl ?_
        refine zi_aload_n 0 d_Mo_of_100 rfl ?_
        refine zi_iload_n 1 d_Mo_of_101 rfl ?_
        refine zi_aload_n 0 d_Mo_of_102 rfl ?_
        obtain ⟨b19, eb19, h⟩ := zbind h
        refine zo_getR 106 zkd_11 3 d_Mo_of_103 eb19 rfl tw_1234 rfl ?_
        refine zi_bipush 51 d_Mo_of_106 rfl ?_
        refine zi_iload_n 1 d_Mo_of_108 rfl ?_
        refine zi_iadd d_Mo_of_109 ?_
        obtain ⟨v20, ev20, h⟩ := zbind h
        refine zo_iald 111 d_Mo_of_110 ev20 rfl ?_
        obtain ⟨q21, eq21, h⟩ := zbind h
        refine zo_virt (k' := 0) (n' := 0) 114 [.int x1, .int v20] [] [.int q21.1] zkd_11 (zck_s eu2) (C_Mo_paysOf n E S a0 x1 v20 q5.2 q21.1 q21.2 eq21) d_Mo_of_111 tw_1508 tw_1505 tw_1507 ts_49 tw_13 dd_Mo_paysOf ⟨Nat.le_of_ble_eq_true rfl, Nat.le_of_ble_eq_true rfl, Nat.le_of_ble_eq_true rfl, Nat.le_of_ble_eq_true rfl⟩ (Nat.le_of_ble_eq_true rfl) rfl rfl rfl rfl ?_
        cases h
        exact zo_ret d_Mo_of_114 (Nat.le_of_ble_eq_true rfl) (Nat.le_of_ble_eq_true rfl) rfl
      rw [if_neg c18] at h
      refine zo_tabP (tgt := 115) 0 5 d_Mo_of_28 rfl rfl (fun j hj => by match j, hj with | 0, _ => exact c7  | 1, _ => exact c10  | 2, _ => exact c13  | 3, _ => exact c16  | 4, _ => exact c18 | j + 5, hj => exact absurd hj (by omega)) rfl ?_
      refine zi_aload_n 0 d_Mo_of_115 rfl ?_
      refine zi_iload_n 1 d_Mo_of_116 rfl ?_
      refine zi_iload_n 2 d_Mo_of_117 rfl ?_
      refine zi_iconst 5 d_Mo_of_118 rfl ?_
      refine zi_isub d_Mo_of_119 ?_
      obtain ⟨q22, eq22, h⟩ := zbind h
      refine zo_virt (k' := 0) (n' := 0) 123 [.int x1, .int (x2 - 5)] [] [.int (bI q22.1)] zkd_11 (zck_s eu2) (C_Mo_isBarred n E S a0 x1 (x2 - 5) q5.2 q22.1 q22.2 eq22) d_Mo_of_120 tw_1512 tw_1509 tw_1511 ts_50 tw_13 dd_Mo_isBarred ⟨Nat.le_of_ble_eq_true rfl, Nat.le_of_ble_eq_true rfl, Nat.le_of_ble_eq_true rfl, Nat.le_of_ble_eq_true rfl⟩ (Nat.le_of_ble_eq_true rfl) rfl rfl rfl rfl ?_
      refine zo_ifeqB d_Mo_of_123 rfl 126 rfl (fun c23 => ?_) (fun c23 => ?_)
      · rw [if_neg c23] at h
        refine zi_iconst 0 d_Mo_of_130 rfl ?_
        cases h
        exact zo_ret d_Mo_of_131 (Nat.le_of_ble_eq_true rfl) (Nat.le_of_ble_eq_true rfl) rfl
      · rw [if_pos c23] at h
        refine zi_iconst 1 d_Mo_of_126 rfl ?_
        refine zi_goto (tgt := 131) d_Mo_of_127 rfl ?_
        cases h
        exact zo_ret d_Mo_of_131 (Nat.le_of_ble_eq_true rfl) (Nat.le_of_ble_eq_true rfl) rfl
    · rw [if_neg c6] at h
      refine zi_iconst (-1) d_Mo_of_25 rfl ?_
      cases h
      exact zo_ret d_Mo_of_26 (Nat.le_of_ble_eq_true rfl) (Nat.le_of_ble_eq_true rfl) rfl
theorem C_Mo_of (n : Nat) (E : zE) (S : zS) (a0 : Nat) (x1 : Int32) (x2 : Int32) (M : zH) (r : Int32) (M' : zH) (h : F_Mo_of n E S a0 x1 x2 M = some (r, M')) : zC E Y_Mo_of [.ref a0, .int x1, .int x2] S M (some (.int r), S, M') :=
  zC.of (Or.inl (show plainName "NightColanderModel" = true by decide)) (Nat.le_of_ble_eq_true rfl) (trivial) (K_Mo_of n E S a0 x1 x2 M r M' h)
theorem d_Mo_wanted_0 : decode (yB Y_Mo_wanted) 0 = .ok (.aload_n 0, 1) := by decide +kernel
theorem d_Mo_wanted_1 : decode (yB Y_Mo_wanted) 1 = .ok (.iconst 0, 1) := by decide +kernel
theorem d_Mo_wanted_2 : decode (yB Y_Mo_wanted) 2 = .ok (.putfield 156, 3) := by decide +kernel
theorem d_Mo_wanted_5 : decode (yB Y_Mo_wanted) 5 = .ok (.iload_n 1, 1) := by decide +kernel
theorem d_Mo_wanted_6 : decode (yB Y_Mo_wanted) 6 = .ok (.invokestatic 194, 3) := by decide +kernel
theorem d_Mo_wanted_9 : decode (yB Y_Mo_wanted) 9 = .ok (.ifCond .eq 29, 3) := by decide +kernel
theorem d_Mo_wanted_12 : decode (yB Y_Mo_wanted) 12 = .ok (.iload_n 2, 1) := by decide +kernel
theorem d_Mo_wanted_13 : decode (yB Y_Mo_wanted) 13 = .ok (.i2l, 1) := by decide +kernel
theorem d_Mo_wanted_14 : decode (yB Y_Mo_wanted) 14 = .ok (.ldc2_w 228, 3) := by decide +kernel
theorem d_Mo_wanted_17 : decode (yB Y_Mo_wanted) 17 = .ok (.ldc2_w 230, 3) := by decide +kernel
theorem d_Mo_wanted_20 : decode (yB Y_Mo_wanted) 20 = .ok (.invokestatic 176, 3) := by decide +kernel
theorem d_Mo_wanted_23 : decode (yB Y_Mo_wanted) 23 = .ok (.ifCond .eq 15, 3) := by decide +kernel
theorem d_Mo_wanted_26 : decode (yB Y_Mo_wanted) 26 = .ok (.aload_n 0, 1) := by decide +kernel
theorem d_Mo_wanted_27 : decode (yB Y_Mo_wanted) 27 = .ok (.bipush 57, 2) := by decide +kernel
theorem d_Mo_wanted_29 : decode (yB Y_Mo_wanted) 29 = .ok (.iload_n 1, 1) := by decide +kernel
theorem d_Mo_wanted_30 : decode (yB Y_Mo_wanted) 30 = .ok (.iadd, 1) := by decide +kernel
theorem d_Mo_wanted_31 : decode (yB Y_Mo_wanted) 31 = .ok (.iload_n 2, 1) := by decide +kernel
theorem d_Mo_wanted_32 : decode (yB Y_Mo_wanted) 32 = .ok (.invokevirtual 205, 3) := by decide +kernel
theorem d_Mo_wanted_35 : decode (yB Y_Mo_wanted) 35 = .ok (.goto 8, 3) := by decide +kernel
theorem d_Mo_wanted_38 : decode (yB Y_Mo_wanted) 38 = .ok (.aload_n 0, 1) := by decide +kernel
theorem d_Mo_wanted_39 : decode (yB Y_Mo_wanted) 39 = .ok (.iconst (-1), 1) := by decide +kernel
theorem d_Mo_wanted_40 : decode (yB Y_Mo_wanted) 40 = .ok (.invokevirtual 165, 3) := by decide +kernel
theorem d_Mo_wanted_43 : decode (yB Y_Mo_wanted) 43 = .ok (.ireturn, 1) := by decide +kernel
def F_Mo_wanted_b38 (n : Nat) (E : zE) (S : zS) (a0 : Nat) (M : zH) : Option (Int32 × zH) :=
  (zck S a0 11).bind fun u1 =>
  (F_Mo_tell n E S a0 (-1) M).bind fun q2 =>
  some (q2.1, q2.2)
def F_Mo_wanted (n : Nat) (E : zE) (S : zS) (a0 : Nat) (x1 : Int32) (x2 : Int32) (M : zH) : Option (Int32 × zH) :=
  (zpI S M a0 11 0 0).bind fun m3 =>
  (F_Mo_isField n E S x1 m3).bind fun q4 =>
  if q4.1 = true then
    (F_Mo_in n E S x2.toInt64 (-1) 400 q4.2).bind fun q6 =>
    if q6.1 = true then
      (zck S a0 11).bind fun u8 =>
      (F_Mo_change n E S a0 (57 + x1) x2 q6.2).bind fun q9 =>
      some (q9.1, q9.2)
    else
      F_Mo_wanted_b38 n E S a0 q6.2
  else
    F_Mo_wanted_b38 n E S a0 q4.2
theorem K_Mo_wanted_b38 (n : Nat) (E : zE) (S : zS) (a0 : Nat) (M : zH) (r : Int32) (M' : zH)  (h : F_Mo_wanted_b38 n E S a0 M = some (r, M')) : zG E Y_Mo_wanted (some (.int r), S, M') 38 [(0, .ref a0)] [] S M 0 0 := by
  unfold F_Mo_wanted_b38 at h
  refine zi_aload_n 0 d_Mo_wanted_38 rfl ?_
  refine zi_iconst (-1) d_Mo_wanted_39 rfl ?_
  obtain ⟨u1, eu1, h⟩ := zbind h
  obtain ⟨q2, eq2, h⟩ := zbind h
  refine zo_virt (k' := 0) (n' := 0) 43 [.int (-1)] [] [.int q2.1] zkd_11 (zck_s eu1) (C_Mo_tell n E S a0 (-1) M q2.1 q2.2 eq2) d_Mo_wanted_40 tw_1410 tw_1407 tw_1409 ts_36 tw_13 dd_Mo_tell ⟨Nat.le_of_ble_eq_true rfl, Nat.le_of_ble_eq_true rfl, Nat.le_of_ble_eq_true rfl, Nat.le_of_ble_eq_true rfl⟩ (Nat.le_of_ble_eq_true rfl) rfl rfl rfl rfl ?_
  cases h
  exact zo_ret d_Mo_wanted_43 (Nat.le_of_ble_eq_true rfl) (Nat.le_of_ble_eq_true rfl) rfl
theorem K_Mo_wanted (n : Nat) (E : zE) (S : zS) (a0 : Nat) (x1 : Int32) (x2 : Int32) (M : zH) (r : Int32) (M' : zH)  (h : F_Mo_wanted n E S a0 x1 x2 M = some (r, M')) : zG E Y_Mo_wanted (some (.int r), S, M') 0 [(0, .ref a0), (1, .int x1), (2, .int x2)] [] S M 0 0 := by
  unfold F_Mo_wanted at h
  refine zi_aload_n 0 d_Mo_wanted_0 rfl ?_
  refine zi_iconst 0 d_Mo_wanted_1 rfl ?_
  obtain ⟨m3, em3, h⟩ := zbind h
  refine zo_putI 5 zkd_11 0 d_Mo_wanted_2 em3 rfl rfl rfl tw_1231 rfl ?_
  refine zi_iload_n 1 d_Mo_wanted_5 rfl ?_
  obtain ⟨q4, eq4, h⟩ := zbind h
  refine zo_stat (k' := 0) (n' := 0) 9 [.int x1] [] [.int (bI q4.1)] (C_Mo_isField n E S x1 m3 q4.1 q4.2 eq4) d_Mo_wanted_6 tw_1440 tw_1438 tw_1439 tw_13 dd_Mo_isField ⟨Nat.le_of_ble_eq_true rfl, Nat.le_of_ble_eq_true rfl, Nat.le_of_ble_eq_true rfl, Nat.le_of_ble_eq_true rfl⟩ (Nat.le_of_ble_eq_true rfl) rfl rfl rfl rfl ?_
  refine zo_ifeqB d_Mo_wanted_9 rfl 12 rfl (fun c5 => ?_) (fun c5 => ?_)
  · rw [if_neg c5] at h
    refine zi_lo [(0, .ref a0)] [0] rfl ?_
    exact K_Mo_wanted_b38 n E S a0 q4.2 r M'  h
  · rw [if_pos c5] at h
    refine zi_iload_n 2 d_Mo_wanted_12 rfl ?_
    refine zi_i2l d_Mo_wanted_13 ?_
    refine zi_ldc2 d_Mo_wanted_14 tw_1449 ?_
    refine zi_ldc2 d_Mo_wanted_17 tw_1517 ?_
    obtain ⟨q6, eq6, h⟩ := zbind h
    refine zo_stat (k' := 0) (n' := 0) 23 [.long x2.toInt64, .long (-1), .long 400] [] [.int (bI q6.1)] (C_Mo_in n E S x2.toInt64 (-1) 400 q4.2 q6.1 q6.2 eq6) d_Mo_wanted_20 tw_1421 tw_1419 tw_1420 tw_13 dd_Mo_in ⟨Nat.le_of_ble_eq_true rfl, Nat.le_of_ble_eq_true rfl, Nat.le_of_ble_eq_true rfl, Nat.le_of_ble_eq_true rfl⟩ (Nat.le_of_ble_eq_true rfl) rfl rfl rfl rfl ?_
    refine zo_ifeqB d_Mo_wanted_23 rfl 26 rfl (fun c7 => ?_) (fun c7 => ?_)
    · rw [if_neg c7] at h
      refine zi_lo [(0, .ref a0)] [0] rfl ?_
      exact K_Mo_wanted_b38 n E S a0 q6.2 r M'  h
    · rw [if_pos c7] at h
      refine zi_aload_n 0 d_Mo_wanted_26 rfl ?_
      refine zi_bipush 57 d_Mo_wanted_27 rfl ?_
      refine zi_iload_n 1 d_Mo_wanted_29 rfl ?_
      refine zi_iadd d_Mo_wanted_30 ?_
      refine zi_iload_n 2 d_Mo_wanted_31 rfl ?_
      obtain ⟨u8, eu8, h⟩ := zbind h
      obtain ⟨q9, eq9, h⟩ := zbind h
      refine zo_virt (k' := 0) (n' := 0) 35 [.int (57 + x1), .int x2] [] [.int q9.1] zkd_11 (zck_s eu8) (C_Mo_change n E S a0 (57 + x1) x2 q6.2 q9.1 q9.2 eq9) d_Mo_wanted_32 tw_1482 tw_1479 tw_1481 ts_45 tw_13 dd_Mo_change ⟨Nat.le_of_ble_eq_true rfl, Nat.le_of_ble_eq_true rfl, Nat.le_of_ble_eq_true rfl, Nat.le_of_ble_eq_true rfl⟩ (Nat.le_of_ble_eq_true rfl) rfl rfl rfl rfl ?_
      refine zi_goto (tgt := 43) d_Mo_wanted_35 rfl ?_
      cases h
      exact zo_ret d_Mo_wanted_43 (Nat.le_of_ble_eq_true rfl) (Nat.le_of_ble_eq_true rfl) rfl
theorem C_Mo_wanted (n : Nat) (E : zE) (S : zS) (a0 : Nat) (x1 : Int32) (x2 : Int32) (M : zH) (r : Int32) (M' : zH) (h : F_Mo_wanted n E S a0 x1 x2 M = some (r, M')) : zC E Y_Mo_wanted [.ref a0, .int x1, .int x2] S M (some (.int r), S, M') :=
  zC.of (Or.inl (show plainName "NightColanderModel" = true by decide)) (Nat.le_of_ble_eq_true rfl) (trivial) (K_Mo_wanted n E S a0 x1 x2 M r M' h)
theorem d_Mo_holeAbove_0 : decode (yB Y_Mo_holeAbove) 0 = .ok (.iload_n 2, 1) := by decide +kernel
theorem d_Mo_holeAbove_1 : decode (yB Y_Mo_holeAbove) 1 = .ok (.bipush 8, 2) := by decide +kernel
theorem d_Mo_holeAbove_3 : decode (yB Y_Mo_holeAbove) 3 = .ok (.iadd, 1) := by decide +kernel
theorem d_Mo_holeAbove_4 : decode (yB Y_Mo_holeAbove) 4 = .ok (.iload_n 3, 1) := by decide +kernel
theorem d_Mo_holeAbove_5 : decode (yB Y_Mo_holeAbove) 5 = .ok (.isub, 1) := by decide +kernel
theorem d_Mo_holeAbove_6 : decode (yB Y_Mo_holeAbove) 6 = .ok (.bipush 8, 2) := by decide +kernel
theorem d_Mo_holeAbove_8 : decode (yB Y_Mo_holeAbove) 8 = .ok (.irem, 1) := by decide +kernel
theorem d_Mo_holeAbove_9 : decode (yB Y_Mo_holeAbove) 9 = .ok (.ireturn, 1) := by decide +kernel
def F_Mo_holeAbove (n : Nat) (E : zE) (S : zS) (a0 : Nat) (x1 : Int32) (x2 : Int32) (x3 : Int32) (M : zH) : Option (Int32 × zH) :=
  (zremI ((x2 + 8) - x3) 8).bind fun v1 =>
  some (v1, M)
theorem K_Mo_holeAbove (n : Nat) (E : zE) (S : zS) (a0 : Nat) (x1 : Int32) (x2 : Int32) (x3 : Int32) (M : zH) (r : Int32) (M' : zH)  (h : F_Mo_holeAbove n E S a0 x1 x2 x3 M = some (r, M')) : zG E Y_Mo_holeAbove (some (.int r), S, M') 0 [(0, .ref a0), (1, .int x1), (2, .int x2), (3, .int x3)] [] S M 0 0 := by
  unfold F_Mo_holeAbove at h
  refine zi_iload_n 2 d_Mo_holeAbove_0 rfl ?_
  refine zi_bipush 8 d_Mo_holeAbove_1 rfl ?_
  refine zi_iadd d_Mo_holeAbove_3 ?_
  refine zi_iload_n 3 d_Mo_holeAbove_4 rfl ?_
  refine zi_isub d_Mo_holeAbove_5 ?_
  refine zi_bipush 8 d_Mo_holeAbove_6 rfl ?_
  obtain ⟨v1, ev1, h⟩ := zbind h
  refine zo_irem 9 d_Mo_holeAbove_8 ev1 rfl ?_
  cases h
  exact zo_ret d_Mo_holeAbove_9 (Nat.le_of_ble_eq_true rfl) (Nat.le_of_ble_eq_true rfl) rfl
theorem C_Mo_holeAbove (n : Nat) (E : zE) (S : zS) (a0 : Nat) (x1 : Int32) (x2 : Int32) (x3 : Int32) (M : zH) (r : Int32) (M' : zH) (h : F_Mo_holeAbove n E S a0 x1 x2 x3 M = some (r, M')) : zC E Y_Mo_holeAbove [.ref a0, .int x1, .int x2, .int x3] S M (some (.int r), S, M') :=
  zC.of (Or.inl (show plainName "NightColanderModel" = true by decide)) (Nat.le_of_ble_eq_true rfl) (trivial) (K_Mo_holeAbove n E S a0 x1 x2 x3 M r M' h)
theorem d_Mo_flowOn_0 : decode (yB Y_Mo_flowOn) 0 = .ok (.iconst 0, 1) := by decide +kernel
theorem d_Mo_flowOn_1 : decode (yB Y_Mo_flowOn) 1 = .ok (.istore_n 2, 1) := by decide +kernel
theorem d_Mo_flowOn_2 : decode (yB Y_Mo_flowOn) 2 = .ok (.iconst 0, 1) := by decide +kernel
theorem d_Mo_flowOn_3 : decode (yB Y_Mo_flowOn) 3 = .ok (.istore_n 3, 1) := by decide +kernel
theorem d_Mo_flowOn_4 : decode (yB Y_Mo_flowOn) 4 = .ok (.iload_n 3, 1) := by decide +kernel
theorem d_Mo_flowOn_5 : decode (yB Y_Mo_flowOn) 5 = .ok (.iconst 4, 1) := by decide +kernel
theorem d_Mo_flowOn_6 : decode (yB Y_Mo_flowOn) 6 = .ok (.if_icmp .ge 58, 3) := by decide +kernel
theorem d_Mo_flowOn_9 : decode (yB Y_Mo_flowOn) 9 = .ok (.aload_n 0, 1) := by decide +kernel
theorem d_Mo_flowOn_10 : decode (yB Y_Mo_flowOn) 10 = .ok (.iload_n 3, 1) := by decide +kernel
theorem d_Mo_flowOn_11 : decode (yB Y_Mo_flowOn) 11 = .ok (.iload_n 1, 1) := by decide +kernel
theorem d_Mo_flowOn_12 : decode (yB Y_Mo_flowOn) 12 = .ok (.aload_n 0, 1) := by decide +kernel
theorem d_Mo_flowOn_13 : decode (yB Y_Mo_flowOn) 13 = .ok (.getfield 13, 3) := by decide +kernel
theorem d_Mo_flowOn_16 : decode (yB Y_Mo_flowOn) 16 = .ok (.bipush 8, 2) := by decide +kernel
theorem d_Mo_flowOn_18 : decode (yB Y_Mo_flowOn) 18 = .ok (.iload_n 3, 1) := by decide +kernel
theorem d_Mo_flowOn_19 : decode (yB Y_Mo_flowOn) 19 = .ok (.iadd, 1) := by decide +kernel
theorem d_Mo_flowOn_20 : decode (yB Y_Mo_flowOn) 20 = .ok (.iaload, 1) := by decide +kernel
theorem d_Mo_flowOn_21 : decode (yB Y_Mo_flowOn) 21 = .ok (.invokevirtual 442, 3) := by decide +kernel
theorem d_Mo_flowOn_24 : decode (yB Y_Mo_flowOn) 24 = .ok (.istore 4, 2) := by decide +kernel
theorem d_Mo_flowOn_26 : decode (yB Y_Mo_flowOn) 26 = .ok (.iload_n 2, 1) := by decide +kernel
theorem d_Mo_flowOn_27 : decode (yB Y_Mo_flowOn) 27 = .ok (.aload_n 0, 1) := by decide +kernel
theorem d_Mo_flowOn_28 : decode (yB Y_Mo_flowOn) 28 = .ok (.getfield 13, 3) := by decide +kernel
theorem d_Mo_flowOn_31 : decode (yB Y_Mo_flowOn) 31 = .ok (.bipush 44, 2) := by decide +kernel
theorem d_Mo_flowOn_33 : decode (yB Y_Mo_flowOn) 33 = .ok (.iload_n 3, 1) := by decide +kernel
theorem d_Mo_flowOn_34 : decode (yB Y_Mo_flowOn) 34 = .ok (.iadd, 1) := by decide +kernel
theorem d_Mo_flowOn_35 : decode (yB Y_Mo_flowOn) 35 = .ok (.iaload, 1) := by decide +kernel
theorem d_Mo_flowOn_36 : decode (yB Y_Mo_flowOn) 36 = .ok (.iload 4, 2) := by decide +kernel
theorem d_Mo_flowOn_38 : decode (yB Y_Mo_flowOn) 38 = .ok (.invokestatic 197, 3) := by decide +kernel
theorem d_Mo_flowOn_41 : decode (yB Y_Mo_flowOn) 41 = .ok (.ifCond .eq 7, 3) := by decide +kernel
theorem d_Mo_flowOn_44 : decode (yB Y_Mo_flowOn) 44 = .ok (.iconst 0, 1) := by decide +kernel
theorem d_Mo_flowOn_45 : decode (yB Y_Mo_flowOn) 45 = .ok (.goto 11, 3) := by decide +kernel
theorem d_Mo_flowOn_48 : decode (yB Y_Mo_flowOn) 48 = .ok (.aload_n 0, 1) := by decide +kernel
theorem d_Mo_flowOn_49 : decode (yB Y_Mo_flowOn) 49 = .ok (.iload_n 3, 1) := by decide +kernel
theorem d_Mo_flowOn_50 : decode (yB Y_Mo_flowOn) 50 = .ok (.iload 4, 2) := by decide +kernel
theorem d_Mo_flowOn_52 : decode (yB Y_Mo_flowOn) 52 = .ok (.iload_n 1, 1) := by decide +kernel
theorem d_Mo_flowOn_53 : decode (yB Y_Mo_flowOn) 53 = .ok (.invokevirtual 201, 3) := by decide +kernel
theorem d_Mo_flowOn_56 : decode (yB Y_Mo_flowOn) 56 = .ok (.iadd, 1) := by decide +kernel
theorem d_Mo_flowOn_57 : decode (yB Y_Mo_flowOn) 57 = .ok (.istore_n 2, 1) := by decide +kernel
theorem d_Mo_flowOn_58 : decode (yB Y_Mo_flowOn) 58 = .ok (.iinc 3 1, 3) := by decide +kernel
theorem d_Mo_flowOn_61 : decode (yB Y_Mo_flowOn) 61 = .ok (.goto (-57), 3) := by decide +kernel
theorem d_Mo_flowOn_64 : decode (yB Y_Mo_flowOn) 64 = .ok (.iload_n 2, 1) := by decide +kernel
theorem d_Mo_flowOn_65 : decode (yB Y_Mo_flowOn) 65 = .ok (.ireturn, 1) := by decide +kernel
def F_Mo_flowOn_b56 (n : Nat) (E : zE) (S : zS) (r4 : Nat × Int32 × Int32 × Int32 × zH → Option (Int32 × zH)) (a0 : Nat) (x1 : Int32) (x3 : Int32) (s0 : Int32) (s1 : Int32) (M : zH) : Option (Int32 × zH) :=
  r4 (a0, x1, s1 + s0, x3 + 1, M)
def F_Mo_flowOn_L4 (n : Nat) (E : zE) (S : zS) (r4 : Nat × Int32 × Int32 × Int32 × zH → Option (Int32 × zH)) (a0 : Nat) (x1 : Int32) (x2 : Int32) (x3 : Int32) (M : zH) : Option (Int32 × zH) :=
  if 4 ≤ x3 then
    some (x2, M)
  else
    (zgR S a0 11 3).bind fun b2 =>
    (zldI S M b2 (8 + x3)).bind fun v3 =>
    (F_Mo_holeAbove n E S a0 x3 x1 v3 M).bind fun q4 =>
    (zldI S q4.2 b2 (44 + x3)).bind fun v5 =>
    (F_Mo_is n E S v5 q4.1 q4.2).bind fun q6 =>
    if q6.1 = true then
      F_Mo_flowOn_b56 n E S r4 a0 x1 x3 0 x2 q6.2
    else
      (F_Mo_runsOf n E S a0 x3 q4.1 x1 q6.2).bind fun q8 =>
      F_Mo_flowOn_b56 n E S r4 a0 x1 x3 q8.1 x2 q8.2
def F_Mo_flowOn_b4 (n : Nat) (E : zE) (S : zS) : Nat × Int32 × Int32 × Int32 × zH → Option (Int32 × zH) := zfix (fun r4 s => F_Mo_flowOn_L4 n E S r4 s.1 s.2.1 s.2.2.1 s.2.2.2.1 s.2.2.2.2) n
def F_Mo_flowOn (n : Nat) (E : zE) (S : zS) (a0 : Nat) (x1 : Int32) (M : zH) : Option (Int32 × zH) :=
  F_Mo_flowOn_b4 n E S (a0, x1, 0, 0, M)
theorem K_Mo_flowOn_b56 (n : Nat) (E : zE) (S : zS) (r4 : Nat × Int32 × Int32 × Int32 × zH → Option (Int32 × zH)) (a0 : Nat) (x1 : Int32) (x3 : Int32) (s0 : Int32) (s1 : Int32) (M : zH) (r : Int32) (M' : zH) (hr4 : ∀ (a0 : Nat) (x1 : Int32) (x2 : Int32) (x3 : Int32) (M : zH), r4 (a0, x1, x2, x3, M) = some (r, M') → zG E Y_Mo_flowOn (some (.int r), S, M') 4 [(0, .ref a0), (1, .int x1), (2, .int x2), (3, .int x3)] [] S M 0 0) (h : F_Mo_flowOn_b56 n E S r4 a0 x1 x3 s0 s1 M = some (r, M')) : zG E Y_Mo_flowOn (some (.int r), S, M') 56 [(0, .ref a0), (1, .int x1), (3, .int x3)] [.int s0, .int s1] S M 0 0 := by
  unfold F_Mo_flowOn_b56 at h
  refine zi_iadd d_Mo_flowOn_56 ?_
  refine zi_istore_n [(2, .int (s1 + s0)), (0, .ref a0), (1, .int x1), (3, .int x3)] d_Mo_flowOn_57 (by decide) rfl ?_
  refine zi_iinc 3 (x3 + 1) [(3, .int (x3 + 1)), (2, .int (s1 + s0)), (0, .ref a0), (1, .int x1)] d_Mo_flowOn_58 rfl rfl (by decide) rfl ?_
  refine zi_goto (tgt := 4) d_Mo_flowOn_61 rfl ?_
  refine zi_lo [(0, .ref a0), (1, .int x1), (2, .int (s1 + s0)), (3, .int (x3 + 1))] [2, 3, 1, 0] rfl ?_
  exact hr4 a0 x1 (s1 + s0) (x3 + 1) M h
theorem K_Mo_flowOn_L4 (n : Nat) (E : zE) (S : zS) (r4 : Nat × Int32 × Int32 × Int32 × zH → Option (Int32 × zH)) (a0 : Nat) (x1 : Int32) (x2 : Int32) (x3 : Int32) (M : zH) (r : Int32) (M' : zH) (hr4 : ∀ (a0 : Nat) (x1 : Int32) (x2 : Int32) (x3 : Int32) (M : zH), r4 (a0, x1, x2, x3, M) = some (r, M') → zG E Y_Mo_flowOn (some (.int r), S, M') 4 [(0, .ref a0), (1, .int x1), (2, .int x2), (3, .int x3)] [] S M 0 0) (h : F_Mo_flowOn_L4 n E S r4 a0 x1 x2 x3 M = some (r, M')) : zG E Y_Mo_flowOn (some (.int r), S, M') 4 [(0, .ref a0), (1, .int x1), (2, .int x2), (3, .int x3)] [] S M 0 0 := by
  unfold F_Mo_flowOn_L4 at h
  refine zi_iload_n 3 d_Mo_flowOn_4 rfl ?_
  refine zi_iconst 4 d_Mo_flowOn_5 rfl ?_
  refine zi_icmp_ge (tgt := 64) d_Mo_flowOn_6 rfl (fun c1 => ?_) (fun c1 => ?_)
  · rw [if_pos c1] at h
    refine zi_iload_n 2 d_Mo_flowOn_64 rfl ?_
    cases h
    exact zo_ret d_Mo_flowOn_65 (Nat.le_of_ble_eq_true rfl) (Nat.le_of_ble_eq_true rfl) rfl
  · rw [if_neg c1] at h
    refine zi_aload_n 0 d_Mo_flowOn_9 rfl ?_
    refine zi_iload_n 3 d_Mo_flowOn_10 rfl ?_
    refine zi_iload_n 1 d_Mo_flowOn_11 rfl ?_
    refine zi_aload_n 0 d_Mo_flowOn_12 rfl ?_
    obtain ⟨b2, eb2, h⟩ := zbind h
    refine zo_getR 16 zkd_11 3 d_Mo_flowOn_13 eb2 rfl tw_1234 rfl ?_
    refine zi_bipush 8 d_Mo_flowOn_16 rfl ?_
    refine zi_iload_n 3 d_Mo_flowOn_18 rfl ?_
    refine zi_iadd d_Mo_flowOn_19 ?_
    obtain ⟨v3, ev3, h⟩ := zbind h
    refine zo_iald 21 d_Mo_flowOn_20 ev3 rfl ?_
    obtain ⟨q4, eq4, h⟩ := zbind h
    refine zo_virt (k' := 0) (n' := 0) 24 [.int x3, .int x1, .int v3] [] [.int q4.1] zkd_11 (zgR_s eb2).1 (C_Mo_holeAbove n E S a0 x3 x1 v3 M q4.1 q4.2 eq4) d_Mo_flowOn_21 tw_1529 tw_1526 tw_1528 ts_52 tw_13 dd_Mo_holeAbove ⟨Nat.le_of_ble_eq_true rfl, Nat.le_of_ble_eq_true rfl, Nat.le_of_ble_eq_true rfl, Nat.le_of_ble_eq_true rfl⟩ (Nat.le_of_ble_eq_true rfl) rfl rfl rfl rfl ?_
    refine zi_istore [(4, .int q4.1), (0, .ref a0), (1, .int x1), (2, .int x2), (3, .int x3)] d_Mo_flowOn_24 (by decide) rfl ?_
    refine zi_iload_n 3 d_Mo_flowOn_26 rfl ?_
    refine zi_aload_n 1 d_Mo_flowOn_27 rfl ?_
    refine zo_getR 31 zkd_11 3 d_Mo_flowOn_28 eb2 rfl tw_1234 rfl ?_
    refine zi_bipush 44 d_Mo_flowOn_31 rfl ?_
    refine zi_iload_n 4 d_Mo_flowOn_33 rfl ?_
    refine zi_iadd d_Mo_flowOn_34 ?_
    obtain ⟨v5, ev5, h⟩ := zbind h
    refine zo_iald 36 d_Mo_flowOn_35 ev5 rfl ?_
    refine zi_iload 0 d_Mo_flowOn_36 rfl ?_
    obtain ⟨q6, eq6, h⟩ := zbind h
    refine zo_stat (k' := 0) (n' := 0) 41 [.int v5, .int q4.1] [.int x2] [.int (bI q6.1), .int x2] (C_Mo_is n E S v5 q4.1 q4.2 q6.1 q6.2 eq6) d_Mo_flowOn_38 tw_1444 tw_1442 tw_1443 tw_13 dd_Mo_is ⟨Nat.le_of_ble_eq_true rfl, Nat.le_of_ble_eq_true rfl, Nat.le_of_ble_eq_true rfl, Nat.le_of_ble_eq_true rfl⟩ (Nat.le_of_ble_eq_true rfl) rfl rfl rfl rfl ?_
    refine zo_ifeqB d_Mo_flowOn_41 rfl 44 rfl (fun c7 => ?_) (fun c7 => ?_)
    · rw [if_neg c7] at h
      refine zi_aload_n 1 d_Mo_flowOn_48 rfl ?_
      refine zi_iload_n 4 d_Mo_flowOn_49 rfl ?_
      refine zi_iload 0 d_Mo_flowOn_50 rfl ?_
      refine zi_iload_n 2 d_Mo_flowOn_52 rfl ?_
      obtain ⟨q8, eq8, h⟩ := zbind h
      refine zo_virt (k' := 0) (n' := 0) 56 [.int x3, .int q4.1, .int x1] [.int x2] [.int q8.1, .int x2] zkd_11 (zgR_s eb2).1 (C_Mo_runsOf n E S a0 x3 q4.1 x1 q6.2 q8.1 q8.2 eq8) d_Mo_flowOn_53 tw_1448 tw_1445 tw_1447 ts_39 tw_13 dd_Mo_runsOf ⟨Nat.le_of_ble_eq_true rfl, Nat.le_of_ble_eq_true rfl, Nat.le_of_ble_eq_true rfl, Nat.le_of_ble_eq_true rfl⟩ (Nat.le_of_ble_eq_true rfl) rfl rfl rfl rfl ?_
      refine zi_lo [(0, .ref a0), (1, .int x1), (3, .int x3)] [1, 2, 4] rfl ?_
      exact K_Mo_flowOn_b56 n E S r4 a0 x1 x3 q8.1 x2 q8.2 r M' hr4 h
    · rw [if_pos c7] at h
      refine zi_iconst 0 d_Mo_flowOn_44 rfl ?_
      refine zi_goto (tgt := 56) d_Mo_flowOn_45 rfl ?_
      refine zi_lo [(0, .ref a0), (1, .int x1), (3, .int x3)] [1, 2, 4] rfl ?_
      exact K_Mo_flowOn_b56 n E S r4 a0 x1 x3 0 x2 q6.2 r M' hr4 h
theorem K_Mo_flowOn_b4 (n : Nat) (E : zE) (S : zS) (a0 : Nat) (x1 : Int32) (x2 : Int32) (x3 : Int32) (M : zH) (r : Int32) (M' : zH)  (h : F_Mo_flowOn_b4 n E S (a0, x1, x2, x3, M) = some (r, M')) : zG E Y_Mo_flowOn (some (.int r), S, M') 4 [(0, .ref a0), (1, .int x1), (2, .int x2), (3, .int x3)] [] S M 0 0 := by
  have key : ∀ (k : Nat) (a0 : Nat) (x1 : Int32) (x2 : Int32) (x3 : Int32) (M : zH), zfix (fun r4 s => F_Mo_flowOn_L4 n E S r4 s.1 s.2.1 s.2.2.1 s.2.2.2.1 s.2.2.2.2) k (a0, x1, x2, x3, M) = some (r, M') → zG E Y_Mo_flowOn (some (.int r), S, M') 4 [(0, .ref a0), (1, .int x1), (2, .int x2), (3, .int x3)] [] S M 0 0 := by
    intro k
    induction k with
    | zero => intro a0 x1 x2 x3 M h; cases h
    | succ k ih => intro a0 x1 x2 x3 M h; exact K_Mo_flowOn_L4 n E S _ a0 x1 x2 x3 M r M'  (fun a0 x1 x2 x3 M h => ih a0 x1 x2 x3 M h) h
  exact key n a0 x1 x2 x3 M h
theorem K_Mo_flowOn (n : Nat) (E : zE) (S : zS) (a0 : Nat) (x1 : Int32) (M : zH) (r : Int32) (M' : zH)  (h : F_Mo_flowOn n E S a0 x1 M = some (r, M')) : zG E Y_Mo_flowOn (some (.int r), S, M') 0 [(0, .ref a0), (1, .int x1)] [] S M 0 0 := by
  unfold F_Mo_flowOn at h
  refine zi_iconst 0 d_Mo_flowOn_0 rfl ?_
  refine zi_istore_n [(2, .int 0), (0, .ref a0), (1, .int x1)] d_Mo_flowOn_1 (by decide) rfl ?_
  refine zi_iconst 0 d_Mo_flowOn_2 rfl ?_
  refine zi_istore_n [(3, .int 0), (2, .int 0), (0, .ref a0), (1, .int x1)] d_Mo_flowOn_3 (by decide) rfl ?_
  refine zi_lo [(0, .ref a0), (1, .int x1), (2, .int 0), (3, .int 0)] [2, 3, 1, 0] rfl ?_
  exact K_Mo_flowOn_b4 n E S a0 x1 0 0 M r M'  h
theorem C_Mo_flowOn (n : Nat) (E : zE) (S : zS) (a0 : Nat) (x1 : Int32) (M : zH) (r : Int32) (M' : zH) (h : F_Mo_flowOn n E S a0 x1 M = some (r, M')) : zC E Y_Mo_flowOn [.ref a0, .int x1] S M (some (.int r), S, M') :=
  zC.of (Or.inl (show plainName "NightColanderModel" = true by decide)) (Nat.le_of_ble_eq_true rfl) (trivial) (K_Mo_flowOn n E S a0 x1 M r M' h)
theorem d_Mo_flow_0 : decode (yB Y_Mo_flow) 0 = .ok (.aload_n 0, 1) := by decide +kernel
theorem d_Mo_flow_1 : decode (yB Y_Mo_flow) 1 = .ok (.iconst 0, 1) := by decide +kernel
theorem d_Mo_flow_2 : decode (yB Y_Mo_flow) 2 = .ok (.putfield 156, 3) := by decide +kernel
theorem d_Mo_flow_5 : decode (yB Y_Mo_flow) 5 = .ok (.iload_n 1, 1) := by decide +kernel
theorem d_Mo_flow_6 : decode (yB Y_Mo_flow) 6 = .ok (.invokestatic 194, 3) := by decide +kernel
theorem d_Mo_flow_9 : decode (yB Y_Mo_flow) 9 = .ok (.ifCond .eq 11, 3) := by decide +kernel
theorem d_Mo_flow_12 : decode (yB Y_Mo_flow) 12 = .ok (.aload_n 0, 1) := by decide +kernel
theorem d_Mo_flow_13 : decode (yB Y_Mo_flow) 13 = .ok (.iload_n 1, 1) := by decide +kernel
theorem d_Mo_flow_14 : decode (yB Y_Mo_flow) 14 = .ok (.invokevirtual 232, 3) := by decide +kernel
theorem d_Mo_flow_17 : decode (yB Y_Mo_flow) 17 = .ok (.goto 4, 3) := by decide +kernel
theorem d_Mo_flow_20 : decode (yB Y_Mo_flow) 20 = .ok (.iconst (-1), 1) := by decide +kernel
theorem d_Mo_flow_21 : decode (yB Y_Mo_flow) 21 = .ok (.ireturn, 1) := by decide +kernel
def F_Mo_flow (n : Nat) (E : zE) (S : zS) (a0 : Nat) (x1 : Int32) (M : zH) : Option (Int32 × zH) :=
  (zpI S M a0 11 0 0).bind fun m1 =>
  (F_Mo_isField n E S x1 m1).bind fun q2 =>
  if q2.1 = true then
    (zck S a0 11).bind fun u4 =>
    (F_Mo_flowOn n E S a0 x1 q2.2).bind fun q5 =>
    some (q5.1, q5.2)
  else
    some ((-1), q2.2)
theorem K_Mo_flow (n : Nat) (E : zE) (S : zS) (a0 : Nat) (x1 : Int32) (M : zH) (r : Int32) (M' : zH)  (h : F_Mo_flow n E S a0 x1 M = some (r, M')) : zG E Y_Mo_flow (some (.int r), S, M') 0 [(0, .ref a0), (1, .int x1)] [] S M 0 0 := by
  unfold F_Mo_flow at h
  refine zi_aload_n 0 d_Mo_flow_0 rfl ?_
  refine zi_iconst 0 d_Mo_flow_1 rfl ?_
  obtain ⟨m1, em1, h⟩ := zbind h
  refine zo_putI 5 zkd_11 0 d_Mo_flow_2 em1 rfl rfl rfl tw_1231 rfl ?_
  refine zi_iload_n 1 d_Mo_flow_5 rfl ?_
  obtain ⟨q2, eq2, h⟩ := zbind h
  refine zo_stat (k' := 0) (n' := 0) 9 [.int x1] [] [.int (bI q2.1)] (C_Mo_isField n E S x1 m1 q2.1 q2.2 eq2) d_Mo_flow_6 tw_1440 tw_1438 tw_1439 tw_13 dd_Mo_isField ⟨Nat.le_of_ble_eq_true rfl, Nat.le_of_ble_eq_true rfl, Nat.le_of_ble_eq_true rfl, Nat.le_of_ble_eq_true rfl⟩ (Nat.le_of_ble_eq_true rfl) rfl rfl rfl rfl ?_
  refine zo_ifeqB d_Mo_flow_9 rfl 12 rfl (fun c3 => ?_) (fun c3 => ?_)
  · rw [if_neg c3] at h
    refine zi_iconst (-1) d_Mo_flow_20 rfl ?_
    cases h
    exact zo_ret d_Mo_flow_21 (Nat.le_of_ble_eq_true rfl) (Nat.le_of_ble_eq_true rfl) rfl
  · rw [if_pos c3] at h
    refine zi_aload_n 0 d_Mo_flow_12 rfl ?_
    refine zi_iload_n 1 d_Mo_flow_13 rfl ?_
    obtain ⟨u4, eu4, h⟩ := zbind h
    obtain ⟨q5, eq5, h⟩ := zbind h
    refine zo_virt (k' := 0) (n' := 0) 17 [.int x1] [] [.int q5.1] zkd_11 (zck_s eu4) (C_Mo_flowOn n E S a0 x1 q2.2 q5.1 q5.2 eq5) d_Mo_flow_14 tw_1525 tw_1522 tw_1524 ts_51 tw_13 dd_Mo_flowOn ⟨Nat.le_of_ble_eq_true rfl, Nat.le_of_ble_eq_true rfl, Nat.le_of_ble_eq_true rfl, Nat.le_of_ble_eq_true rfl⟩ (Nat.le_of_ble_eq_true rfl) rfl rfl rfl rfl ?_
    refine zi_goto (tgt := 21) d_Mo_flow_17 rfl ?_
    cases h
    exact zo_ret d_Mo_flow_21 (Nat.le_of_ble_eq_true rfl) (Nat.le_of_ble_eq_true rfl) rfl
theorem C_Mo_flow (n : Nat) (E : zE) (S : zS) (a0 : Nat) (x1 : Int32) (M : zH) (r : Int32) (M' : zH) (h : F_Mo_flow n E S a0 x1 M = some (r, M')) : zC E Y_Mo_flow [.ref a0, .int x1] S M (some (.int r), S, M') :=
  zC.of (Or.inl (show plainName "NightColanderModel" = true by decide)) (Nat.le_of_ble_eq_true rfl) (trivial) (K_Mo_flow n E S a0 x1 M r M' h)
theorem d_Mo_isTerm_0 : decode (yB Y_Mo_isTerm) 0 = .ok (.iload_n 0, 1) := by decide +kernel
theorem d_Mo_isTerm_1 : decode (yB Y_Mo_isTerm) 1 = .ok (.tableswitch 71 0 3 #[31, 41, 51, 61], 31) := by decide +kernel
theorem d_Mo_isTerm_32 : decode (yB Y_Mo_isTerm) 32 = .ok (.iload_n 1, 1) := by decide +kernel
theorem d_Mo_isTerm_33 : decode (yB Y_Mo_isTerm) 33 = .ok (.i2l, 1) := by decide +kernel
theorem d_Mo_isTerm_34 : decode (yB Y_Mo_isTerm) 34 = .ok (.lconst 0, 1) := by decide +kernel
theorem d_Mo_isTerm_35 : decode (yB Y_Mo_isTerm) 35 = .ok (.ldc2_w 235, 3) := by decide +kernel
theorem d_Mo_isTerm_38 : decode (yB Y_Mo_isTerm) 38 = .ok (.invokestatic 176, 3) := by decide +kernel
theorem d_Mo_isTerm_41 : decode (yB Y_Mo_isTerm) 41 = .ok (.ireturn, 1) := by decide +kernel
theorem d_Mo_isTerm_42 : decode (yB Y_Mo_isTerm) 42 = .ok (.iload_n 1, 1) := by decide +kernel
theorem d_Mo_isTerm_43 : decode (yB Y_Mo_isTerm) 43 = .ok (.i2l, 1) := by decide +kernel
theorem d_Mo_isTerm_44 : decode (yB Y_Mo_isTerm) 44 = .ok (.lconst 0, 1) := by decide +kernel
theorem d_Mo_isTerm_45 : decode (yB Y_Mo_isTerm) 45 = .ok (.ldc2_w 237, 3) := by decide +kernel
theorem d_Mo_isTerm_48 : decode (yB Y_Mo_isTerm) 48 = .ok (.invokestatic 176, 3) := by decide +kernel
theorem d_Mo_isTerm_51 : decode (yB Y_Mo_isTerm) 51 = .ok (.ireturn, 1) := by decide +kernel
theorem d_Mo_isTerm_52 : decode (yB Y_Mo_isTerm) 52 = .ok (.iload_n 1, 1) := by decide +kernel
theorem d_Mo_isTerm_53 : decode (yB Y_Mo_isTerm) 53 = .ok (.i2l, 1) := by decide +kernel
theorem d_Mo_isTerm_54 : decode (yB Y_Mo_isTerm) 54 = .ok (.lconst 0, 1) := by decide +kernel
theorem d_Mo_isTerm_55 : decode (yB Y_Mo_isTerm) 55 = .ok (.ldc2_w 237, 3) := by decide +kernel
theorem d_Mo_isTerm_58 : decode (yB Y_Mo_isTerm) 58 = .ok (.invokestatic 176, 3) := by decide +kernel
theorem d_Mo_isTerm_61 : decode (yB Y_Mo_isTerm) 61 = .ok (.ireturn, 1) := by decide +kernel
theorem d_Mo_isTerm_62 : decode (yB Y_Mo_isTerm) 62 = .ok (.iload_n 1, 1) := by decide +kernel
theorem d_Mo_isTerm_63 : decode (yB Y_Mo_isTerm) 63 = .ok (.i2l, 1) := by decide +kernel
theorem d_Mo_isTerm_64 : decode (yB Y_Mo_isTerm) 64 = .ok (.lconst 0, 1) := by decide +kernel
theorem d_Mo_isTerm_65 : decode (yB Y_Mo_isTerm) 65 = .ok (.ldc2_w 239, 3) := by decide +kernel
theorem d_Mo_isTerm_68 : decode (yB Y_Mo_isTerm) 68 = .ok (.invokestatic 176, 3) := by decide +kernel
theorem d_Mo_isTerm_71 : decode (yB Y_Mo_isTerm) 71 = .ok (.ireturn, 1) := by decide +kernel
theorem d_Mo_isTerm_72 : decode (yB Y_Mo_isTerm) 72 = .ok (.iconst 0, 1) := by decide +kernel
theorem d_Mo_isTerm_73 : decode (yB Y_Mo_isTerm) 73 = .ok (.ireturn, 1) := by decide +kernel
def F_Mo_isTerm (n : Nat) (E : zE) (S : zS) (x0 : Int32) (x1 : Int32) (M : zH) : Option (Bool × zH) :=
  if x0 = 0 then
    (F_Mo_in n E S x1.toInt64 0 999 M).bind fun q2 =>
    some (q2.1, q2.2)
  else
  if x0 = 1 then
    (F_Mo_in n E S x1.toInt64 0 9 M).bind fun q4 =>
    some (q4.1, q4.2)
  else
  if x0 = 2 then
    (F_Mo_in n E S x1.toInt64 0 9 M).bind fun q6 =>
    some (q6.1, q6.2)
  else
  if x0 = 3 then
    (F_Mo_in n E S x1.toInt64 0 10 M).bind fun q8 =>
    some (q8.1, q8.2)
  else
    some (false, M)
theorem K_Mo_isTerm (n : Nat) (E : zE) (S : zS) (x0 : Int32) (x1 : Int32) (M : zH) (r : Bool) (M' : zH)  (h : F_Mo_isTerm n E S x0 x1 M = some (r, M')) : zG E Y_Mo_isTerm (some (.int (bI r)), S, M') 0 [(0, .int x0), (1, .int x1)] [] S M 0 0 := by
  unfold F_Mo_isTerm at h
  refine zi_iload_n 0 d_Mo_isTerm_0 rfl ?_
  by_cases c1 : x0 = 0
  · rw [if_pos c1] at h
    refine zo_tab (tgt := 32) 0 d_Mo_isTerm_1 c1 (by decide) (by decide) rfl rfl ?_
    refine zi_iload_n 1 d_Mo_isTerm_32 rfl ?_
    refine zi_i2l d_Mo_isTerm_33 ?_
    refine zi_lconst 0 d_Mo_isTerm_34 rfl ?_
    refine zi_ldc2 d_Mo_isTerm_35 tw_1537 ?_
    obtain ⟨q2, eq2, h⟩ := zbind h
    refine zo_stat (k' := 0) (n' := 0) 41 [.long x1.toInt64, .long 0, .long 999] [] [.int (bI q2.1)] (C_Mo_in n E S x1.toInt64 0 999 M q2.1 q2.2 eq2) d_Mo_isTerm_38 tw_1421 tw_1419 tw_1420 tw_13 dd_Mo_in ⟨Nat.le_of_ble_eq_true rfl, Nat.le_of_ble_eq_true rfl, Nat.le_of_ble_eq_true rfl, Nat.le_of_ble_eq_true rfl⟩ (Nat.le_of_ble_eq_true rfl) rfl rfl rfl rfl ?_
    cases h
    exact zo_retB d_Mo_isTerm_41 (Nat.le_of_ble_eq_true rfl) (Nat.le_of_ble_eq_true rfl) rfl
  rw [if_neg c1] at h
  by_cases c3 : x0 = 1
  · rw [if_pos c3] at h
    refine zo_tab (tgt := 42) 1 d_Mo_isTerm_1 c3 (by decide) (by decide) rfl rfl ?_
    refine zi_iload_n 1 d_Mo_isTerm_42 rfl ?_
    refine zi_i2l d_Mo_isTerm_43 ?_
    refine zi_lconst 0 d_Mo_isTerm_44 rfl ?_
    refine zi_ldc2 d_Mo_isTerm_45 tw_1538 ?_
    obtain ⟨q4, eq4, h⟩ := zbind h
    refine zo_stat (k' := 0) (n' := 0) 51 [.long x1.toInt64, .long 0, .long 9] [] [.int (bI q4.1)] (C_Mo_in n E S x1.toInt64 0 9 M q4.1 q4.2 eq4) d_Mo_isTerm_48 tw_1421 tw_1419 tw_1420 tw_13 dd_Mo_in ⟨Nat.le_of_ble_eq_true rfl, Nat.le_of_ble_eq_true rfl, Nat.le_of_ble_eq_true rfl, Nat.le_of_ble_eq_true rfl⟩ (Nat.le_of_ble_eq_true rfl) rfl rfl rfl rfl ?_
    cases h
    exact zo_retB d_Mo_isTerm_51 (Nat.le_of_ble_eq_true rfl) (Nat.le_of_ble_eq_true rfl) rfl
  rw [if_neg c3] at h
  by_cases c5 : x0 = 2
  · rw [if_pos c5] at h
    refine zo_tab (tgt := 52) 2 d_Mo_isTerm_1 c5 (by decide) (by decide) rfl rfl ?_
    refine zi_iload_n 1 d_Mo_isTerm_52 rfl ?_
    refine zi_i2l d_Mo_isTerm_53 ?_
    refine zi_lconst 0 d_Mo_isTerm_54 rfl ?_
    refine zi_ldc2 d_Mo_isTerm_55 tw_1538 ?_
    obtain ⟨q6, eq6, h⟩ := zbind h
    refine zo_stat (k' := 0) (n' := 0) 61 [.long x1.toInt64, .long 0, .long 9] [] [.int (bI q6.1)] (C_Mo_in n E S x1.toInt64 0 9 M q6.1 q6.2 eq6) d_Mo_isTerm_58 tw_1421 tw_1419 tw_1420 tw_13 dd_Mo_in ⟨Nat.le_of_ble_eq_true rfl, Nat.le_of_ble_eq_true rfl, Nat.le_of_ble_eq_true rfl, Nat.le_of_ble_eq_true rfl⟩ (Nat.le_of_ble_eq_true rfl) rfl rfl rfl rfl ?_
    cases h
    exact zo_retB d_Mo_isTerm_61 (Nat.le_of_ble_eq_true rfl) (Nat.le_of_ble_eq_true rfl) rfl
  rw [if_neg c5] at h
  by_cases c7 : x0 = 3
  · rw [if_pos c7] at h
    refine zo_tab (tgt := 62) 3 d_Mo_isTerm_1 c7 (by decide) (by decide) rfl rfl ?_
    refine zi_iload_n 1 d_Mo_isTerm_62 rfl ?_
    refine zi_i2l d_Mo_isTerm_63 ?_
    refine zi_lconst 0 d_Mo_isTerm_64 rfl ?_
    refine zi_ldc2 d_Mo_isTerm_65 tw_1539 ?_
    obtain ⟨q8, eq8, h⟩ := zbind h
    refine zo_stat (k' := 0) (n' := 0) 71 [.long x1.toInt64, .long 0, .long 10] [] [.int (bI q8.1)] (C_Mo_in n E S x1.toInt64 0 10 M q8.1 q8.2 eq8) d_Mo_isTerm_68 tw_1421 tw_1419 tw_1420 tw_13 dd_Mo_in ⟨Nat.le_of_ble_eq_true rfl, Nat.le_of_ble_eq_true rfl, Nat.le_of_ble_eq_true rfl, Nat.le_of_ble_eq_true rfl⟩ (Nat.le_of_ble_eq_true rfl) rfl rfl rfl rfl ?_
    cases h
    exact zo_retB d_Mo_isTerm_71 (Nat.le_of_ble_eq_true rfl) (Nat.le_of_ble_eq_true rfl) rfl
  rw [if_neg c7] at h
  refine zo_tabP (tgt := 72) 0 4 d_Mo_isTerm_1 rfl rfl (fun j hj => by match j, hj with | 0, _ => exact c1  | 1, _ => exact c3  | 2, _ => exact c5  | 3, _ => exact c7 | j + 4, hj => exact absurd hj (by omega)) rfl ?_
  refine zi_iconst 0 d_Mo_isTerm_72 rfl ?_
  cases h
  exact zo_retB d_Mo_isTerm_73 (Nat.le_of_ble_eq_true rfl) (Nat.le_of_ble_eq_true rfl) rfl
theorem C_Mo_isTerm (n : Nat) (E : zE) (S : zS) (x0 : Int32) (x1 : Int32) (M : zH) (r : Bool) (M' : zH) (h : F_Mo_isTerm n E S x0 x1 M = some (r, M')) : zC E Y_Mo_isTerm [.int x0, .int x1] S M (some (.int (bI r)), S, M') :=
  zC.of (Or.inl (show plainName "NightColanderModel" = true by decide)) (Nat.le_of_ble_eq_true rfl) (bI_nar r) (K_Mo_isTerm n E S x0 x1 M r M' h)
