/-! METHODS (printed by gen/build.py): Mo_is Mo_isField Mo_isRing Mo_isBucket Mo_reckon Mo_reckonAll Mo_isSo Mo_tells Mo_within -/
theorem d_Mo_is_0 : decode (yB Y_Mo_is) 0 = .ok (.iload_n 0, 1) := by decide +kernel
theorem d_Mo_is_1 : decode (yB Y_Mo_is) 1 = .ok (.iload_n 1, 1) := by decide +kernel
theorem d_Mo_is_2 : decode (yB Y_Mo_is) 2 = .ok (.ishr, 1) := by decide +kernel
theorem d_Mo_is_3 : decode (yB Y_Mo_is) 3 = .ok (.iconst 1, 1) := by decide +kernel
theorem d_Mo_is_4 : decode (yB Y_Mo_is) 4 = .ok (.iand, 1) := by decide +kernel
theorem d_Mo_is_5 : decode (yB Y_Mo_is) 5 = .ok (.iconst 1, 1) := by decide +kernel
theorem d_Mo_is_6 : decode (yB Y_Mo_is) 6 = .ok (.if_icmp .ne 7, 3) := by decide +kernel
theorem d_Mo_is_9 : decode (yB Y_Mo_is) 9 = .ok (.iconst 1, 1) := by decide +kernel
theorem d_Mo_is_10 : decode (yB Y_Mo_is) 10 = .ok (.goto 4, 3) := by decide +kernel
theorem d_Mo_is_13 : decode (yB Y_Mo_is) 13 = .ok (.iconst 0, 1) := by decide +kernel
theorem d_Mo_is_14 : decode (yB Y_Mo_is) 14 = .ok (.ireturn, 1) := by decide +kernel
def F_Mo_is (n : Nat) (E : zE) (S : zS) (x0 : Int32) (x1 : Int32) (M : zH) : Option (Bool × zH) :=
  if ((x0 >>> (x1 &&& (31 : Int32))) &&& (1 : Int32)) = 1 then
    some (true, M)
  else
    some (false, M)
theorem K_Mo_is (n : Nat) (E : zE) (S : zS) (x0 : Int32) (x1 : Int32) (M : zH) (r : Bool) (M' : zH)  (h : F_Mo_is n E S x0 x1 M = some (r, M')) : zG E Y_Mo_is (some (.int (bI r)), S, M') 0 [(0, .int x0), (1, .int x1)] [] S M 0 0 := by
  unfold F_Mo_is at h
  refine zi_iload_n 0 d_Mo_is_0 rfl ?_
  refine zi_iload_n 1 d_Mo_is_1 rfl ?_
  refine zi_ishr d_Mo_is_2 ?_
  refine zi_iconst 1 d_Mo_is_3 rfl ?_
  refine zi_iand d_Mo_is_4 ?_
  refine zi_iconst 1 d_Mo_is_5 rfl ?_
  refine zi_icmp_ne (tgt := 13) d_Mo_is_6 rfl (fun c1 => ?_) (fun c1 => ?_)
  · rw [if_neg c1] at h
    refine zi_iconst 0 d_Mo_is_13 rfl ?_
    cases h
    exact zo_retB d_Mo_is_14 (Nat.le_of_ble_eq_true rfl) (Nat.le_of_ble_eq_true rfl) rfl
  · rw [if_pos c1] at h
    refine zi_iconst 1 d_Mo_is_9 rfl ?_
    refine zi_goto (tgt := 14) d_Mo_is_10 rfl ?_
    cases h
    exact zo_retB d_Mo_is_14 (Nat.le_of_ble_eq_true rfl) (Nat.le_of_ble_eq_true rfl) rfl
theorem C_Mo_is (n : Nat) (E : zE) (S : zS) (x0 : Int32) (x1 : Int32) (M : zH) (r : Bool) (M' : zH) (h : F_Mo_is n E S x0 x1 M = some (r, M')) : zC E Y_Mo_is [.int x0, .int x1] S M (some (.int (bI r)), S, M') :=
  zC.of (Or.inl (show plainName "NightColanderModel" = true by decide)) (Nat.le_of_ble_eq_true rfl) (bI_nar r) (K_Mo_is n E S x0 x1 M r M' h)
theorem d_Mo_isField_0 : decode (yB Y_Mo_isField) 0 = .ok (.iload_n 0, 1) := by decide +kernel
theorem d_Mo_isField_1 : decode (yB Y_Mo_isField) 1 = .ok (.i2l, 1) := by decide +kernel
theorem d_Mo_isField_2 : decode (yB Y_Mo_isField) 2 = .ok (.lconst 0, 1) := by decide +kernel
theorem d_Mo_isField_3 : decode (yB Y_Mo_isField) 3 = .ok (.ldc2_w 185, 3) := by decide +kernel
theorem d_Mo_isField_6 : decode (yB Y_Mo_isField) 6 = .ok (.invokestatic 176, 3) := by decide +kernel
theorem d_Mo_isField_9 : decode (yB Y_Mo_isField) 9 = .ok (.ireturn, 1) := by decide +kernel
def F_Mo_isField (n : Nat) (E : zE) (S : zS) (x0 : Int32) (M : zH) : Option (Bool × zH) :=
  (F_Mo_in n E S x0.toInt64 0 7 M).bind fun q1 =>
  some (q1.1, q1.2)
theorem K_Mo_isField (n : Nat) (E : zE) (S : zS) (x0 : Int32) (M : zH) (r : Bool) (M' : zH)  (h : F_Mo_isField n E S x0 M = some (r, M')) : zG E Y_Mo_isField (some (.int (bI r)), S, M') 0 [(0, .int x0)] [] S M 0 0 := by
  unfold F_Mo_isField at h
  refine zi_iload_n 0 d_Mo_isField_0 rfl ?_
  refine zi_i2l d_Mo_isField_1 ?_
  refine zi_lconst 0 d_Mo_isField_2 rfl ?_
  refine zi_ldc2 d_Mo_isField_3 tw_1441 ?_
  obtain ⟨q1, eq1, h⟩ := zbind h
  refine zo_stat (k' := 0) (n' := 0) 9 [.long x0.toInt64, .long 0, .long 7] [] [.int (bI q1.1)] (C_Mo_in n E S x0.toInt64 0 7 M q1.1 q1.2 eq1) d_Mo_isField_6 tw_1421 tw_1419 tw_1420 tw_13 dd_Mo_in ⟨Nat.le_of_ble_eq_true rfl, Nat.le_of_ble_eq_true rfl, Nat.le_of_ble_eq_true rfl, Nat.le_of_ble_eq_true rfl⟩ (Nat.le_of_ble_eq_true rfl) rfl rfl rfl rfl ?_
  cases h
  exact zo_retB d_Mo_isField_9 (Nat.le_of_ble_eq_true rfl) (Nat.le_of_ble_eq_true rfl) rfl
theorem C_Mo_isField (n : Nat) (E : zE) (S : zS) (x0 : Int32) (M : zH) (r : Bool) (M' : zH) (h : F_Mo_isField n E S x0 M = some (r, M')) : zC E Y_Mo_isField [.int x0] S M (some (.int (bI r)), S, M') :=
  zC.of (Or.inl (show plainName "NightColanderModel" = true by decide)) (Nat.le_of_ble_eq_true rfl) (bI_nar r) (K_Mo_isField n E S x0 M r M' h)
theorem d_Mo_isRing_0 : decode (yB Y_Mo_isRing) 0 = .ok (.iload_n 0, 1) := by decide +kernel
theorem d_Mo_isRing_1 : decode (yB Y_Mo_isRing) 1 = .ok (.i2l, 1) := by decide +kernel
theorem d_Mo_isRing_2 : decode (yB Y_Mo_isRing) 2 = .ok (.lconst 0, 1) := by decide +kernel
theorem d_Mo_isRing_3 : decode (yB Y_Mo_isRing) 3 = .ok (.ldc2_w 183, 3) := by decide +kernel
theorem d_Mo_isRing_6 : decode (yB Y_Mo_isRing) 6 = .ok (.invokestatic 176, 3) := by decide +kernel
theorem d_Mo_isRing_9 : decode (yB Y_Mo_isRing) 9 = .ok (.ireturn, 1) := by decide +kernel
def F_Mo_isRing (n : Nat) (E : zE) (S : zS) (x0 : Int32) (M : zH) : Option (Bool × zH) :=
  (F_Mo_in n E S x0.toInt64 0 3 M).bind fun q1 =>
  some (q1.1, q1.2)
theorem K_Mo_isRing (n : Nat) (E : zE) (S : zS) (x0 : Int32) (M : zH) (r : Bool) (M' : zH)  (h : F_Mo_isRing n E S x0 M = some (r, M')) : zG E Y_Mo_isRing (some (.int (bI r)), S, M') 0 [(0, .int x0)] [] S M 0 0 := by
  unfold F_Mo_isRing at h
  refine zi_iload_n 0 d_Mo_isRing_0 rfl ?_
  refine zi_i2l d_Mo_isRing_1 ?_
  refine zi_lconst 0 d_Mo_isRing_2 rfl ?_
  refine zi_ldc2 d_Mo_isRing_3 tw_1437 ?_
  obtain ⟨q1, eq1, h⟩ := zbind h
  refine zo_stat (k' := 0) (n' := 0) 9 [.long x0.toInt64, .long 0, .long 3] [] [.int (bI q1.1)] (C_Mo_in n E S x0.toInt64 0 3 M q1.1 q1.2 eq1) d_Mo_isRing_6 tw_1421 tw_1419 tw_1420 tw_13 dd_Mo_in ⟨Nat.le_of_ble_eq_true rfl, Nat.le_of_ble_eq_true rfl, Nat.le_of_ble_eq_true rfl, Nat.le_of_ble_eq_true rfl⟩ (Nat.le_of_ble_eq_true rfl) rfl rfl rfl rfl ?_
  cases h
  exact zo_retB d_Mo_isRing_9 (Nat.le_of_ble_eq_true rfl) (Nat.le_of_ble_eq_true rfl) rfl
theorem C_Mo_isRing (n : Nat) (E : zE) (S : zS) (x0 : Int32) (M : zH) (r : Bool) (M' : zH) (h : F_Mo_isRing n E S x0 M = some (r, M')) : zC E Y_Mo_isRing [.int x0] S M (some (.int (bI r)), S, M') :=
  zC.of (Or.inl (show plainName "NightColanderModel" = true by decide)) (Nat.le_of_ble_eq_true rfl) (bI_nar r) (K_Mo_isRing n E S x0 M r M' h)
theorem d_Mo_isBucket_0 : decode (yB Y_Mo_isBucket) 0 = .ok (.iload_n 1, 1) := by decide +kernel
theorem d_Mo_isBucket_1 : decode (yB Y_Mo_isBucket) 1 = .ok (.i2l, 1) := by decide +kernel
theorem d_Mo_isBucket_2 : decode (yB Y_Mo_isBucket) 2 = .ok (.lconst 0, 1) := by decide +kernel
theorem d_Mo_isBucket_3 : decode (yB Y_Mo_isBucket) 3 = .ok (.aload_n 0, 1) := by decide +kernel
theorem d_Mo_isBucket_4 : decode (yB Y_Mo_isBucket) 4 = .ok (.getfield 13, 3) := by decide +kernel
theorem d_Mo_isBucket_7 : decode (yB Y_Mo_isBucket) 7 = .ok (.iconst 0, 1) := by decide +kernel
theorem d_Mo_isBucket_8 : decode (yB Y_Mo_isBucket) 8 = .ok (.iaload, 1) := by decide +kernel
theorem d_Mo_isBucket_9 : decode (yB Y_Mo_isBucket) 9 = .ok (.i2l, 1) := by decide +kernel
theorem d_Mo_isBucket_10 : decode (yB Y_Mo_isBucket) 10 = .ok (.lconst 1, 1) := by decide +kernel
theorem d_Mo_isBucket_11 : decode (yB Y_Mo_isBucket) 11 = .ok (.lsub, 1) := by decide +kernel
theorem d_Mo_isBucket_12 : decode (yB Y_Mo_isBucket) 12 = .ok (.invokestatic 176, 3) := by decide +kernel
theorem d_Mo_isBucket_15 : decode (yB Y_Mo_isBucket) 15 = .ok (.ireturn, 1) := by decide +kernel
def F_Mo_isBucket (n : Nat) (E : zE) (S : zS) (a0 : Nat) (x1 : Int32) (M : zH) : Option (Bool × zH) :=
  (zgR S a0 11 3).bind fun b1 =>
  (zldI S M b1 0).bind fun v2 =>
  (F_Mo_in n E S x1.toInt64 0 (v2.toInt64 - 1) M).bind fun q3 =>
  some (q3.1, q3.2)
theorem K_Mo_isBucket (n : Nat) (E : zE) (S : zS) (a0 : Nat) (x1 : Int32) (M : zH) (r : Bool) (M' : zH)  (h : F_Mo_isBucket n E S a0 x1 M = some (r, M')) : zG E Y_Mo_isBucket (some (.int (bI r)), S, M') 0 [(0, .ref a0), (1, .int x1)] [] S M 0 0 := by
  unfold F_Mo_isBucket at h
  refine zi_iload_n 1 d_Mo_isBucket_0 rfl ?_
  refine zi_i2l d_Mo_isBucket_1 ?_
  refine zi_lconst 0 d_Mo_isBucket_2 rfl ?_
  refine zi_aload_n 0 d_Mo_isBucket_3 rfl ?_
  obtain ⟨b1, eb1, h⟩ := zbind h
  refine zo_getR 7 zkd_11 3 d_Mo_isBucket_4 eb1 rfl tw_1234 rfl ?_
  refine zi_iconst 0 d_Mo_isBucket_7 rfl ?_
  obtain ⟨v2, ev2, h⟩ := zbind h
  refine zo_iald 9 d_Mo_isBucket_8 ev2 rfl ?_
  refine zi_i2l d_Mo_isBucket_9 ?_
  refine zi_lconst 1 d_Mo_isBucket_10 rfl ?_
  refine zi_lsub d_Mo_isBucket_11 ?_
  obtain ⟨q3, eq3, h⟩ := zbind h
  refine zo_stat (k' := 0) (n' := 0) 15 [.long x1.toInt64, .long 0, .long (v2.toInt64 - 1)] [] [.int (bI q3.1)] (C_Mo_in n E S x1.toInt64 0 (v2.toInt64 - 1) M q3.1 q3.2 eq3) d_Mo_isBucket_12 tw_1421 tw_1419 tw_1420 tw_13 dd_Mo_in ⟨Nat.le_of_ble_eq_true rfl, Nat.le_of_ble_eq_true rfl, Nat.le_of_ble_eq_true rfl, Nat.le_of_ble_eq_true rfl⟩ (Nat.le_of_ble_eq_true rfl) rfl rfl rfl rfl ?_
  cases h
  exact zo_retB d_Mo_isBucket_15 (Nat.le_of_ble_eq_true rfl) (Nat.le_of_ble_eq_true rfl) rfl
theorem C_Mo_isBucket (n : Nat) (E : zE) (S : zS) (a0 : Nat) (x1 : Int32) (M : zH) (r : Bool) (M' : zH) (h : F_Mo_isBucket n E S a0 x1 M = some (r, M')) : zC E Y_Mo_isBucket [.ref a0, .int x1] S M (some (.int (bI r)), S, M') :=
  zC.of (Or.inl (show plainName "NightColanderModel" = true by decide)) (Nat.le_of_ble_eq_true rfl) (bI_nar r) (K_Mo_isBucket n E S a0 x1 M r M' h)
theorem d_Mo_reckon_0 : decode (yB Y_Mo_reckon) 0 = .ok (.iload_n 1, 1) := by decide +kernel
theorem d_Mo_reckon_1 : decode (yB Y_Mo_reckon) 1 = .ok (.tableswitch 148 20 26 #[43, 48, 53, 58, 90, 122, 135], 43) := by decide +kernel
theorem d_Mo_reckon_44 : decode (yB Y_Mo_reckon) 44 = .ok (.lload_n 2, 1) := by decide +kernel
theorem d_Mo_reckon_45 : decode (yB Y_Mo_reckon) 45 = .ok (.lload 4, 2) := by decide +kernel
theorem d_Mo_reckon_47 : decode (yB Y_Mo_reckon) 47 = .ok (.ladd, 1) := by decide +kernel
theorem d_Mo_reckon_48 : decode (yB Y_Mo_reckon) 48 = .ok (.lreturn, 1) := by decide +kernel
theorem d_Mo_reckon_49 : decode (yB Y_Mo_reckon) 49 = .ok (.lload_n 2, 1) := by decide +kernel
theorem d_Mo_reckon_50 : decode (yB Y_Mo_reckon) 50 = .ok (.lload 4, 2) := by decide +kernel
theorem d_Mo_reckon_52 : decode (yB Y_Mo_reckon) 52 = .ok (.lsub, 1) := by decide +kernel
theorem d_Mo_reckon_53 : decode (yB Y_Mo_reckon) 53 = .ok (.lreturn, 1) := by decide +kernel
theorem d_Mo_reckon_54 : decode (yB Y_Mo_reckon) 54 = .ok (.lload_n 2, 1) := by decide +kernel
theorem d_Mo_reckon_55 : decode (yB Y_Mo_reckon) 55 = .ok (.lload 4, 2) := by decide +kernel
theorem d_Mo_reckon_57 : decode (yB Y_Mo_reckon) 57 = .ok (.lmul, 1) := by decide +kernel
theorem d_Mo_reckon_58 : decode (yB Y_Mo_reckon) 58 = .ok (.lreturn, 1) := by decide +kernel
theorem d_Mo_reckon_59 : decode (yB Y_Mo_reckon) 59 = .ok (.aload_n 0, 1) := by decide +kernel
theorem d_Mo_reckon_60 : decode (yB Y_Mo_reckon) 60 = .ok (.lload 4, 2) := by decide +kernel
theorem d_Mo_reckon_62 : decode (yB Y_Mo_reckon) 62 = .ok (.lconst 0, 1) := by decide +kernel
theorem d_Mo_reckon_63 : decode (yB Y_Mo_reckon) 63 = .ok (.lcmp, 1) := by decide +kernel
theorem d_Mo_reckon_64 : decode (yB Y_Mo_reckon) 64 = .ok (.ifCond .ne 7, 3) := by decide +kernel
theorem d_Mo_reckon_67 : decode (yB Y_Mo_reckon) 67 = .ok (.iconst 1, 1) := by decide +kernel
theorem d_Mo_reckon_68 : decode (yB Y_Mo_reckon) 68 = .ok (.goto 4, 3) := by decide +kernel
theorem d_Mo_reckon_71 : decode (yB Y_Mo_reckon) 71 = .ok (.iconst 0, 1) := by decide +kernel
theorem d_Mo_reckon_72 : decode (yB Y_Mo_reckon) 72 = .ok (.putfield 405, 3) := by decide +kernel
theorem d_Mo_reckon_75 : decode (yB Y_Mo_reckon) 75 = .ok (.aload_n 0, 1) := by decide +kernel
theorem d_Mo_reckon_76 : decode (yB Y_Mo_reckon) 76 = .ok (.getfield 405, 3) := by decide +kernel
theorem d_Mo_reckon_79 : decode (yB Y_Mo_reckon) 79 = .ok (.ifCond .eq 7, 3) := by decide +kernel
theorem d_Mo_reckon_82 : decode (yB Y_Mo_reckon) 82 = .ok (.lconst 0, 1) := by decide +kernel
theorem d_Mo_reckon_83 : decode (yB Y_Mo_reckon) 83 = .ok (.goto 7, 3) := by decide +kernel
theorem d_Mo_reckon_86 : decode (yB Y_Mo_reckon) 86 = .ok (.lload_n 2, 1) := by decide +kernel
theorem d_Mo_reckon_87 : decode (yB Y_Mo_reckon) 87 = .ok (.lload 4, 2) := by decide +kernel
theorem d_Mo_reckon_89 : decode (yB Y_Mo_reckon) 89 = .ok (.ldiv, 1) := by decide +kernel
theorem d_Mo_reckon_90 : decode (yB Y_Mo_reckon) 90 = .ok (.lreturn, 1) := by decide +kernel
theorem d_Mo_reckon_91 : decode (yB Y_Mo_reckon) 91 = .ok (.aload_n 0, 1) := by decide +kernel
theorem d_Mo_reckon_92 : decode (yB Y_Mo_reckon) 92 = .ok (.lload 4, 2) := by decide +kernel
theorem d_Mo_reckon_94 : decode (yB Y_Mo_reckon) 94 = .ok (.lconst 0, 1) := by decide +kernel
theorem d_Mo_reckon_95 : decode (yB Y_Mo_reckon) 95 = .ok (.lcmp, 1) := by decide +kernel
theorem d_Mo_reckon_96 : decode (yB Y_Mo_reckon) 96 = .ok (.ifCond .ne 7, 3) := by decide +kernel
theorem d_Mo_reckon_99 : decode (yB Y_Mo_reckon) 99 = .ok (.iconst 1, 1) := by decide +kernel
theorem d_Mo_reckon_100 : decode (yB Y_Mo_reckon) 100 = .ok (.goto 4, 3) := by decide +kernel
theorem d_Mo_reckon_103 : decode (yB Y_Mo_reckon) 103 = .ok (.iconst 0, 1) := by decide +kernel
theorem d_Mo_reckon_104 : decode (yB Y_Mo_reckon) 104 = .ok (.putfield 405, 3) := by decide +kernel
theorem d_Mo_reckon_107 : decode (yB Y_Mo_reckon) 107 = .ok (.aload_n 0, 1) := by decide +kernel
theorem d_Mo_reckon_108 : decode (yB Y_Mo_reckon) 108 = .ok (.getfield 405, 3) := by decide +kernel
theorem d_Mo_reckon_111 : decode (yB Y_Mo_reckon) 111 = .ok (.ifCond .eq 7, 3) := by decide +kernel
theorem d_Mo_reckon_114 : decode (yB Y_Mo_reckon) 114 = .ok (.lconst 0, 1) := by decide +kernel
theorem d_Mo_reckon_115 : decode (yB Y_Mo_reckon) 115 = .ok (.goto 7, 3) := by decide +kernel
theorem d_Mo_reckon_118 : decode (yB Y_Mo_reckon) 118 = .ok (.lload_n 2, 1) := by decide +kernel
theorem d_Mo_reckon_119 : decode (yB Y_Mo_reckon) 119 = .ok (.lload 4, 2) := by decide +kernel
theorem d_Mo_reckon_121 : decode (yB Y_Mo_reckon) 121 = .ok (.lrem, 1) := by decide +kernel
theorem d_Mo_reckon_122 : decode (yB Y_Mo_reckon) 122 = .ok (.lreturn, 1) := by decide +kernel
theorem d_Mo_reckon_123 : decode (yB Y_Mo_reckon) 123 = .ok (.lload_n 2, 1) := by decide +kernel
theorem d_Mo_reckon_124 : decode (yB Y_Mo_reckon) 124 = .ok (.lload 4, 2) := by decide +kernel
theorem d_Mo_reckon_126 : decode (yB Y_Mo_reckon) 126 = .ok (.lcmp, 1) := by decide +kernel
theorem d_Mo_reckon_127 : decode (yB Y_Mo_reckon) 127 = .ok (.ifCond .ge 7, 3) := by decide +kernel
theorem d_Mo_reckon_130 : decode (yB Y_Mo_reckon) 130 = .ok (.lconst 1, 1) := by decide +kernel
theorem d_Mo_reckon_131 : decode (yB Y_Mo_reckon) 131 = .ok (.goto 4, 3) := by decide +kernel
theorem d_Mo_reckon_134 : decode (yB Y_Mo_reckon) 134 = .ok (.lconst 0, 1) := by decide +kernel
theorem d_Mo_reckon_135 : decode (yB Y_Mo_reckon) 135 = .ok (.lreturn, 1) := by decide +kernel
theorem d_Mo_reckon_136 : decode (yB Y_Mo_reckon) 136 = .ok (.lload_n 2, 1) := by decide +kernel
theorem d_Mo_reckon_137 : decode (yB Y_Mo_reckon) 137 = .ok (.lload 4, 2) := by decide +kernel
theorem d_Mo_reckon_139 : decode (yB Y_Mo_reckon) 139 = .ok (.lcmp, 1) := by decide +kernel
theorem d_Mo_reckon_140 : decode (yB Y_Mo_reckon) 140 = .ok (.ifCond .le 7, 3) := by decide +kernel
theorem d_Mo_reckon_143 : decode (yB Y_Mo_reckon) 143 = .ok (.lconst 1, 1) := by decide +kernel
theorem d_Mo_reckon_144 : decode (yB Y_Mo_reckon) 144 = .ok (.goto 4, 3) := by decide +kernel
theorem d_Mo_reckon_147 : decode (yB Y_Mo_reckon) 147 = .ok (.lconst 0, 1) := by decide +kernel
theorem d_Mo_reckon_148 : decode (yB Y_Mo_reckon) 148 = .ok (.lreturn, 1) := by decide +kernel
theorem d_Mo_reckon_149 : decode (yB Y_Mo_reckon) 149 = .ok (.lload_n 2, 1) := by decide +kernel
theorem d_Mo_reckon_150 : decode (yB Y_Mo_reckon) 150 = .ok (.lload 4, 2) := by decide +kernel
theorem d_Mo_reckon_152 : decode (yB Y_Mo_reckon) 152 = .ok (.lcmp, 1) := by decide +kernel
theorem d_Mo_reckon_153 : decode (yB Y_Mo_reckon) 153 = .ok (.ifCond .ne 7, 3) := by decide +kernel
theorem d_Mo_reckon_156 : decode (yB Y_Mo_reckon) 156 = .ok (.lconst 1, 1) := by decide +kernel
theorem d_Mo_reckon_157 : decode (yB Y_Mo_reckon) 157 = .ok (.goto 4, 3) := by decide +kernel
theorem d_Mo_reckon_160 : decode (yB Y_Mo_reckon) 160 = .ok (.lconst 0, 1) := by decide +kernel
theorem d_Mo_reckon_161 : decode (yB Y_Mo_reckon) 161 = .ok (.lreturn, 1) := by decide +kernel
def F_Mo_reckon_b72 (n : Nat) (E : zE) (S : zS) (a0 : Nat) (y2 : Int64) (y4 : Int64) (s0 : Int32) (u1 : Nat) (M : zH) : Option (Int64 × zH) :=
  (zpZ S M u1 11 38 s0).bind fun m1 =>
  (zgI S m1 a0 11 38).bind fun v2 =>
  if v2 = 0 then
    (zdivJ y2 y4).bind fun v4 =>
    some (v4, m1)
  else
    some (0, m1)
def F_Mo_reckon_b104 (n : Nat) (E : zE) (S : zS) (a0 : Nat) (y2 : Int64) (y4 : Int64) (s0 : Int32) (u1 : Nat) (M : zH) : Option (Int64 × zH) :=
  (zpZ S M u1 11 38 s0).bind fun m5 =>
  (zgI S m5 a0 11 38).bind fun v6 =>
  if v6 = 0 then
    (zremJ y2 y4).bind fun v8 =>
    some (v8, m5)
  else
    some (0, m5)
def F_Mo_reckon (n : Nat) (E : zE) (S : zS) (a0 : Nat) (x1 : Int32) (y2 : Int64) (y4 : Int64) (M : zH) : Option (Int64 × zH) :=
  if x1 = 20 then
    some (y2 + y4, M)
  else
  if x1 = 21 then
    some (y2 - y4, M)
  else
  if x1 = 22 then
    some (y2 * y4, M)
  else
  if x1 = 23 then
    if y4 = 0 then
      F_Mo_reckon_b72 n E S a0 y2 y4 1 a0 M
    else
      F_Mo_reckon_b72 n E S a0 y2 y4 0 a0 M
  else
  if x1 = 24 then
    if y4 = 0 then
      F_Mo_reckon_b104 n E S a0 y2 y4 1 a0 M
    else
      F_Mo_reckon_b104 n E S a0 y2 y4 0 a0 M
  else
  if x1 = 25 then
    if y4 ≤ y2 then
      some (0, M)
    else
      some (1, M)
  else
  if x1 = 26 then
    if y2 ≤ y4 then
      some (0, M)
    else
      some (1, M)
  else
    if y2 = y4 then
      some (1, M)
    else
      some (0, M)
theorem K_Mo_reckon_b72 (n : Nat) (E : zE) (S : zS) (a0 : Nat) (y2 : Int64) (y4 : Int64) (s0 : Int32) (u1 : Nat) (M : zH) (r : Int64) (M' : zH)  (h : F_Mo_reckon_b72 n E S a0 y2 y4 s0 u1 M = some (r, M')) : zG E Y_Mo_reckon (some (.long r), S, M') 72 [(0, .ref a0), (2, .long y2), (4, .long y4)] [.int s0, .ref u1] S M 0 0 := by
  unfold F_Mo_reckon_b72 at h
  obtain ⟨m1, em1, h⟩ := zbind h
  refine zo_putZ 75 zkd_11 38 d_Mo_reckon_72 em1 rfl rfl rfl tw_1269 rfl ?_
  refine zi_aload_n 0 d_Mo_reckon_75 rfl ?_
  obtain ⟨v2, ev2, h⟩ := zbind h
  refine zo_getI 79 zkd_11 38 d_Mo_reckon_76 ev2 rfl tw_1269 rfl ?_
  refine zi_if_eq (tgt := 86) d_Mo_reckon_79 rfl (fun c3 => ?_) (fun c3 => ?_)
  · rw [if_pos c3] at h
    refine zi_lload_n 1 d_Mo_reckon_86 rfl ?_
    refine zi_lload 2 d_Mo_reckon_87 rfl ?_
    obtain ⟨v4, ev4, h⟩ := zbind h
    refine zo_ldiv 90 d_Mo_reckon_89 ev4 rfl ?_
    cases h
    exact zo_ret d_Mo_reckon_90 (Nat.le_of_ble_eq_true rfl) (Nat.le_of_ble_eq_true rfl) rfl
  · rw [if_neg c3] at h
    refine zi_lconst 0 d_Mo_reckon_82 rfl ?_
    refine zi_goto (tgt := 90) d_Mo_reckon_83 rfl ?_
    cases h
    exact zo_ret d_Mo_reckon_90 (Nat.le_of_ble_eq_true rfl) (Nat.le_of_ble_eq_true rfl) rfl
theorem K_Mo_reckon_b104 (n : Nat) (E : zE) (S : zS) (a0 : Nat) (y2 : Int64) (y4 : Int64) (s0 : Int32) (u1 : Nat) (M : zH) (r : Int64) (M' : zH)  (h : F_Mo_reckon_b104 n E S a0 y2 y4 s0 u1 M = some (r, M')) : zG E Y_Mo_reckon (some (.long r), S, M') 104 [(0, .ref a0), (2, .long y2), (4, .long y4)] [.int s0, .ref u1] S M 0 0 := by
  unfold F_Mo_reckon_b104 at h
  obtain ⟨m5, em5, h⟩ := zbind h
  refine zo_putZ 107 zkd_11 38 d_Mo_reckon_104 em5 rfl rfl rfl tw_1269 rfl ?_
  refine zi_aload_n 0 d_Mo_reckon_107 rfl ?_
  obtain ⟨v6, ev6, h⟩ := zbind h
  refine zo_getI 111 zkd_11 38 d_Mo_reckon_108 ev6 rfl tw_1269 rfl ?_
  refine zi_if_eq (tgt := 118) d_Mo_reckon_111 rfl (fun c7 => ?_) (fun c7 => ?_)
  · rw [if_pos c7] at h
    refine zi_lload_n 1 d_Mo_reckon_118 rfl ?_
    refine zi_lload 2 d_Mo_reckon_119 rfl ?_
    obtain ⟨v8, ev8, h⟩ := zbind h
    refine zo_lrem 122 d_Mo_reckon_121 ev8 rfl ?_
    cases h
    exact zo_ret d_Mo_reckon_122 (Nat.le_of_ble_eq_true rfl) (Nat.le_of_ble_eq_true rfl) rfl
  · rw [if_neg c7] at h
    refine zi_lconst 0 d_Mo_reckon_114 rfl ?_
    refine zi_goto (tgt := 122) d_Mo_reckon_115 rfl ?_
    cases h
    exact zo_ret d_Mo_reckon_122 (Nat.le_of_ble_eq_true rfl) (Nat.le_of_ble_eq_true rfl) rfl
theorem K_Mo_reckon (n : Nat) (E : zE) (S : zS) (a0 : Nat) (x1 : Int32) (y2 : Int64) (y4 : Int64) (M : zH) (r : Int64) (M' : zH)  (h : F_Mo_reckon n E S a0 x1 y2 y4 M = some (r, M')) : zG E Y_Mo_reckon (some (.long r), S, M') 0 [(0, .ref a0), (1, .int x1), (2, .long y2), (4, .long y4)] [] S M 0 0 := by
  unfold F_Mo_reckon at h
  refine zi_iload_n 1 d_Mo_reckon_0 rfl ?_
  by_cases c9 : x1 = 20
  · rw [if_pos c9] at h
    refine zo_tab (tgt := 44) 20 d_Mo_reckon_1 c9 (by decide) (by decide) rfl rfl ?_
    refine zi_lload_n 2 d_Mo_reckon_44 rfl ?_
    refine zi_lload 3 d_Mo_reckon_45 rfl ?_
    refine zi_ladd d_Mo_reckon_47 ?_
    cases h
    exact zo_ret d_Mo_reckon_48 (Nat.le_of_ble_eq_true rfl) (Nat.le_of_ble_eq_true rfl) rfl
  rw [if_neg c9] at h
  by_cases c10 : x1 = 21
  · rw [if_pos c10] at h
    refine zo_tab (tgt := 49) 21 d_Mo_reckon_1 c10 (by decide) (by decide) rfl rfl ?_
    refine zi_lload_n 2 d_Mo_reckon_49 rfl ?_
    refine zi_lload 3 d_Mo_reckon_50 rfl ?_
    refine zi_lsub d_Mo_reckon_52 ?_
    cases h
    exact zo_ret d_Mo_reckon_53 (Nat.le_of_ble_eq_true rfl) (Nat.le_of_ble_eq_true rfl) rfl
  rw [if_neg c10] at h
  by_cases c11 : x1 = 22
  · rw [if_pos c11] at h
    refine zo_tab (tgt := 54) 22 d_Mo_reckon_1 c11 (by decide) (by decide) rfl rfl ?_
    refine zi_lload_n 2 d_Mo_reckon_54 rfl ?_
    refine zi_lload 3 d_Mo_reckon_55 rfl ?_
    refine zi_lmul d_Mo_reckon_57 ?_
    cases h
    exact zo_ret d_Mo_reckon_58 (Nat.le_of_ble_eq_true rfl) (Nat.le_of_ble_eq_true rfl) rfl
  rw [if_neg c11] at h
  by_cases c12 : x1 = 23
  · rw [if_pos c12] at h
    refine zo_tab (tgt := 59) 23 d_Mo_reckon_1 c12 (by decide) (by decide) rfl rfl ?_
    refine zi_aload_n 0 d_Mo_reckon_59 rfl ?_
    refine zi_lload 3 d_Mo_reckon_60 rfl ?_
    refine zi_lconst 0 d_Mo_reckon_62 rfl ?_
    refine zo_lc_ne d_Mo_reckon_63 d_Mo_reckon_64 rfl 67 rfl (fun c13 => ?_) (fun c13 => ?_)
    · rw [if_neg c13] at h
      refine zi_iconst 0 d_Mo_reckon_71 rfl ?_
      refine zi_lo [(0, .ref a0), (2, .long y2), (4, .long y4)] [0, 2, 3] rfl ?_
      exact K_Mo_reckon_b72 n E S a0 y2 y4 0 a0 M r M'  h
    · rw [if_pos c13] at h
      refine zi_iconst 1 d_Mo_reckon_67 rfl ?_
      refine zi_goto (tgt := 72) d_Mo_reckon_68 rfl ?_
      refine zi_lo [(0, .ref a0), (2, .long y2), (4, .long y4)] [0, 2, 3] rfl ?_
      exact K_Mo_reckon_b72 n E S a0 y2 y4 1 a0 M r M'  h
  rw [if_neg c12] at h
  by_cases c14 : x1 = 24
  · rw [if_pos c14] at h
    refine zo_tab (tgt := 91) 24 d_Mo_reckon_1 c14 (by decide) (by decide) rfl rfl ?_
    refine zi_aload_n 0 d_Mo_reckon_91 rfl ?_
    refine zi_lload 3 d_Mo_reckon_92 rfl ?_
    refine zi_lconst 0 d_Mo_reckon_94 rfl ?_
    refine zo_lc_ne d_Mo_reckon_95 d_Mo_reckon_96 rfl 99 rfl (fun c15 => ?_) (fun c15 => ?_)
    · rw [if_neg c15] at h
      refine zi_iconst 0 d_Mo_reckon_103 rfl ?_
      refine zi_lo [(0, .ref a0), (2, .long y2), (4, .long y4)] [0, 2, 3] rfl ?_
      exact K_Mo_reckon_b104 n E S a0 y2 y4 0 a0 M r M'  h
    · rw [if_pos c15] at h
      refine zi_iconst 1 d_Mo_reckon_99 rfl ?_
      refine zi_goto (tgt := 104) d_Mo_reckon_100 rfl ?_
      refine zi_lo [(0, .ref a0), (2, .long y2), (4, .long y4)] [0, 2, 3] rfl ?_
      exact K_Mo_reckon_b104 n E S a0 y2 y4 1 a0 M r M'  h
  rw [if_neg c14] at h
  by_cases c16 : x1 = 25
  · rw [if_pos c16] at h
    refine zo_tab (tgt := 123) 25 d_Mo_reckon_1 c16 (by decide) (by decide) rfl rfl ?_
    refine zi_lload_n 2 d_Mo_reckon_123 rfl ?_
    refine zi_lload 3 d_Mo_reckon_124 rfl ?_
    refine zo_lc_ge d_Mo_reckon_126 d_Mo_reckon_127 rfl 130 rfl (fun c17 => ?_) (fun c17 => ?_)
    · rw [if_pos c17] at h
      refine zi_lconst 0 d_Mo_reckon_134 rfl ?_
      cases h
      exact zo_ret d_Mo_reckon_135 (Nat.le_of_ble_eq_true rfl) (Nat.le_of_ble_eq_true rfl) rfl
    · rw [if_neg c17] at h
      refine zi_lconst 1 d_Mo_reckon_130 rfl ?_
      refine zi_goto (tgt := 135) d_Mo_reckon_131 rfl ?_
      cases h
      exact zo_ret d_Mo_reckon_135 (Nat.le_of_ble_eq_true rfl) (Nat.le_of_ble_eq_true rfl) rfl
  rw [if_neg c16] at h
  by_cases c18 : x1 = 26
  · rw [if_pos c18] at h
    refine zo_tab (tgt := 136) 26 d_Mo_reckon_1 c18 (by decide) (by decide) rfl rfl ?_
    refine zi_lload_n 2 d_Mo_reckon_136 rfl ?_
    refine zi_lload 3 d_Mo_reckon_137 rfl ?_
    refine zo_lc_le d_Mo_reckon_139 d_Mo_reckon_140 rfl 143 rfl (fun c19 => ?_) (fun c19 => ?_)
    · rw [if_pos c19] at h
      refine zi_lconst 0 d_Mo_reckon_147 rfl ?_
      cases h
      exact zo_ret d_Mo_reckon_148 (Nat.le_of_ble_eq_true rfl) (Nat.le_of_ble_eq_true rfl) rfl
    · rw [if_neg c19] at h
      refine zi_lconst 1 d_Mo_reckon_143 rfl ?_
      refine zi_goto (tgt := 148) d_Mo_reckon_144 rfl ?_
      cases h
      exact zo_ret d_Mo_reckon_148 (Nat.le_of_ble_eq_true rfl) (Nat.le_of_ble_eq_true rfl) rfl
  rw [if_neg c18] at h
  refine zo_tabP (tgt := 149) 20 7 d_Mo_reckon_1 rfl rfl (fun j hj => by match j, hj with | 0, _ => exact c9  | 1, _ => exact c10  | 2, _ => exact c11  | 3, _ => exact c12  | 4, _ => exact c14  | 5, _ => exact c16  | 6, _ => exact c18 | j + 7, hj => exact absurd hj (by omega)) rfl ?_
  refine zi_lload_n 2 d_Mo_reckon_149 rfl ?_
  refine zi_lload 3 d_Mo_reckon_150 rfl ?_
  refine zo_lc_ne d_Mo_reckon_152 d_Mo_reckon_153 rfl 156 rfl (fun c20 => ?_) (fun c20 => ?_)
  · rw [if_neg c20] at h
    refine zi_lconst 0 d_Mo_reckon_160 rfl ?_
    cases h
    exact zo_ret d_Mo_reckon_161 (Nat.le_of_ble_eq_true rfl) (Nat.le_of_ble_eq_true rfl) rfl
  · rw [if_pos c20] at h
    refine zi_lconst 1 d_Mo_reckon_156 rfl ?_
    refine zi_goto (tgt := 161) d_Mo_reckon_157 rfl ?_
    cases h
    exact zo_ret d_Mo_reckon_161 (Nat.le_of_ble_eq_true rfl) (Nat.le_of_ble_eq_true rfl) rfl
theorem C_Mo_reckon (n : Nat) (E : zE) (S : zS) (a0 : Nat) (x1 : Int32) (y2 : Int64) (y4 : Int64) (M : zH) (r : Int64) (M' : zH) (h : F_Mo_reckon n E S a0 x1 y2 y4 M = some (r, M')) : zC E Y_Mo_reckon [.ref a0, .int x1, .long y2, .long y4] S M (some (.long r), S, M') :=
  zC.of (Or.inl (show plainName "NightColanderModel" = true by decide)) (Nat.le_of_ble_eq_true rfl) (trivial) (K_Mo_reckon n E S a0 x1 y2 y4 M r M' h)
theorem d_Mo_reckonAll_0 : decode (yB Y_Mo_reckonAll) 0 = .ok (.aload_n 0, 1) := by decide +kernel
theorem d_Mo_reckonAll_1 : decode (yB Y_Mo_reckonAll) 1 = .ok (.iconst 0, 1) := by decide +kernel
theorem d_Mo_reckonAll_2 : decode (yB Y_Mo_reckonAll) 2 = .ok (.putfield 405, 3) := by decide +kernel
theorem d_Mo_reckonAll_5 : decode (yB Y_Mo_reckonAll) 5 = .ok (.iconst 0, 1) := by decide +kernel
theorem d_Mo_reckonAll_6 : decode (yB Y_Mo_reckonAll) 6 = .ok (.istore_n 3, 1) := by decide +kernel
theorem d_Mo_reckonAll_7 : decode (yB Y_Mo_reckonAll) 7 = .ok (.iload_n 1, 1) := by decide +kernel
theorem d_Mo_reckonAll_8 : decode (yB Y_Mo_reckonAll) 8 = .ok (.istore 4, 2) := by decide +kernel
theorem d_Mo_reckonAll_10 : decode (yB Y_Mo_reckonAll) 10 = .ok (.iload 4, 2) := by decide +kernel
theorem d_Mo_reckonAll_12 : decode (yB Y_Mo_reckonAll) 12 = .ok (.iload_n 2, 1) := by decide +kernel
theorem d_Mo_reckonAll_13 : decode (yB Y_Mo_reckonAll) 13 = .ok (.if_icmp .ge 356, 3) := by decide +kernel
theorem d_Mo_reckonAll_16 : decode (yB Y_Mo_reckonAll) 16 = .ok (.aload_n 0, 1) := by decide +kernel
theorem d_Mo_reckonAll_17 : decode (yB Y_Mo_reckonAll) 17 = .ok (.getfield 405, 3) := by decide +kernel
theorem d_Mo_reckonAll_20 : decode (yB Y_Mo_reckonAll) 20 = .ok (.ifCond .ne 349, 3) := by decide +kernel
theorem d_Mo_reckonAll_23 : decode (yB Y_Mo_reckonAll) 23 = .ok (.aload_n 0, 1) := by decide +kernel
theorem d_Mo_reckonAll_24 : decode (yB Y_Mo_reckonAll) 24 = .ok (.getfield 331, 3) := by decide +kernel
theorem d_Mo_reckonAll_27 : decode (yB Y_Mo_reckonAll) 27 = .ok (.ifCond .eq 13, 3) := by decide +kernel
theorem d_Mo_reckonAll_30 : decode (yB Y_Mo_reckonAll) 30 = .ok (.aload_n 0, 1) := by decide +kernel
theorem d_Mo_reckonAll_31 : decode (yB Y_Mo_reckonAll) 31 = .ok (.getfield 45, 3) := by decide +kernel
theorem d_Mo_reckonAll_34 : decode (yB Y_Mo_reckonAll) 34 = .ok (.iload 4, 2) := by decide +kernel
theorem d_Mo_reckonAll_36 : decode (yB Y_Mo_reckonAll) 36 = .ok (.iaload, 1) := by decide +kernel
theorem d_Mo_reckonAll_37 : decode (yB Y_Mo_reckonAll) 37 = .ok (.goto 20, 3) := by decide +kernel
theorem d_Mo_reckonAll_40 : decode (yB Y_Mo_reckonAll) 40 = .ok (.aload_n 0, 1) := by decide +kernel
theorem d_Mo_reckonAll_41 : decode (yB Y_Mo_reckonAll) 41 = .ok (.getfield 13, 3) := by decide +kernel
theorem d_Mo_reckonAll_44 : decode (yB Y_Mo_reckonAll) 44 = .ok (.aload_n 0, 1) := by decide +kernel
theorem d_Mo_reckonAll_45 : decode (yB Y_Mo_reckonAll) 45 = .ok (.getfield 408, 3) := by decide +kernel
theorem d_Mo_reckonAll_48 : decode (yB Y_Mo_reckonAll) 48 = .ok (.bipush 98, 2) := by decide +kernel
theorem d_Mo_reckonAll_50 : decode (yB Y_Mo_reckonAll) 50 = .ok (.iadd, 1) := by decide +kernel
theorem d_Mo_reckonAll_51 : decode (yB Y_Mo_reckonAll) 51 = .ok (.iconst 2, 1) := by decide +kernel
theorem d_Mo_reckonAll_52 : decode (yB Y_Mo_reckonAll) 52 = .ok (.iload 4, 2) := by decide +kernel
theorem d_Mo_reckonAll_54 : decode (yB Y_Mo_reckonAll) 54 = .ok (.imul, 1) := by decide +kernel
theorem d_Mo_reckonAll_55 : decode (yB Y_Mo_reckonAll) 55 = .ok (.iadd, 1) := by decide +kernel
theorem d_Mo_reckonAll_56 : decode (yB Y_Mo_reckonAll) 56 = .ok (.iaload, 1) := by decide +kernel
theorem d_Mo_reckonAll_57 : decode (yB Y_Mo_reckonAll) 57 = .ok (.istore 5, 2) := by decide +kernel
theorem d_Mo_reckonAll_59 : decode (yB Y_Mo_reckonAll) 59 = .ok (.aload_n 0, 1) := by decide +kernel
theorem d_Mo_reckonAll_60 : decode (yB Y_Mo_reckonAll) 60 = .ok (.getfield 331, 3) := by decide +kernel
theorem d_Mo_reckonAll_63 : decode (yB Y_Mo_reckonAll) 63 = .ok (.ifCond .eq 13, 3) := by decide +kernel
theorem d_Mo_reckonAll_66 : decode (yB Y_Mo_reckonAll) 66 = .ok (.aload_n 0, 1) := by decide +kernel
theorem d_Mo_reckonAll_67 : decode (yB Y_Mo_reckonAll) 67 = .ok (.getfield 48, 3) := by decide +kernel
theorem d_Mo_reckonAll_70 : decode (yB Y_Mo_reckonAll) 70 = .ok (.iload 4, 2) := by decide +kernel
theorem d_Mo_reckonAll_72 : decode (yB Y_Mo_reckonAll) 72 = .ok (.iaload, 1) := by decide +kernel
theorem d_Mo_reckonAll_73 : decode (yB Y_Mo_reckonAll) 73 = .ok (.goto 22, 3) := by decide +kernel
theorem d_Mo_reckonAll_76 : decode (yB Y_Mo_reckonAll) 76 = .ok (.aload_n 0, 1) := by decide +kernel
theorem d_Mo_reckonAll_77 : decode (yB Y_Mo_reckonAll) 77 = .ok (.getfield 13, 3) := by decide +kernel
theorem d_Mo_reckonAll_80 : decode (yB Y_Mo_reckonAll) 80 = .ok (.aload_n 0, 1) := by decide +kernel
theorem d_Mo_reckonAll_81 : decode (yB Y_Mo_reckonAll) 81 = .ok (.getfield 408, 3) := by decide +kernel
theorem d_Mo_reckonAll_84 : decode (yB Y_Mo_reckonAll) 84 = .ok (.bipush 98, 2) := by decide +kernel
theorem d_Mo_reckonAll_86 : decode (yB Y_Mo_reckonAll) 86 = .ok (.iadd, 1) := by decide +kernel
theorem d_Mo_reckonAll_87 : decode (yB Y_Mo_reckonAll) 87 = .ok (.iconst 2, 1) := by decide +kernel
theorem d_Mo_reckonAll_88 : decode (yB Y_Mo_reckonAll) 88 = .ok (.iload 4, 2) := by decide +kernel
theorem d_Mo_reckonAll_90 : decode (yB Y_Mo_reckonAll) 90 = .ok (.imul, 1) := by decide +kernel
theorem d_Mo_reckonAll_91 : decode (yB Y_Mo_reckonAll) 91 = .ok (.iadd, 1) := by decide +kernel
theorem d_Mo_reckonAll_92 : decode (yB Y_Mo_reckonAll) 92 = .ok (.iconst 1, 1) := by decide +kernel
theorem d_Mo_reckonAll_93 : decode (yB Y_Mo_reckonAll) 93 = .ok (.iadd, 1) := by decide +kernel
theorem d_Mo_reckonAll_94 : decode (yB Y_Mo_reckonAll) 94 = .ok (.iaload, 1) := by decide +kernel
theorem d_Mo_reckonAll_95 : decode (yB Y_Mo_reckonAll) 95 = .ok (.istore 6, 2) := by decide +kernel
theorem d_Mo_reckonAll_97 : decode (yB Y_Mo_reckonAll) 97 = .ok (.iinc 4 1, 3) := by decide +kernel
theorem d_Mo_reckonAll_100 : decode (yB Y_Mo_reckonAll) 100 = .ok (.iload 5, 2) := by decide +kernel
theorem d_Mo_reckonAll_102 : decode (yB Y_Mo_reckonAll) 102 = .ok (.bipush 20, 2) := by decide +kernel
theorem d_Mo_reckonAll_104 : decode (yB Y_Mo_reckonAll) 104 = .ok (.if_icmp .ge 123, 3) := by decide +kernel
theorem d_Mo_reckonAll_107 : decode (yB Y_Mo_reckonAll) 107 = .ok (.aload_n 0, 1) := by decide +kernel
theorem d_Mo_reckonAll_108 : decode (yB Y_Mo_reckonAll) 108 = .ok (.getfield 109, 3) := by decide +kernel
theorem d_Mo_reckonAll_111 : decode (yB Y_Mo_reckonAll) 111 = .ok (.iload_n 3, 1) := by decide +kernel
theorem d_Mo_reckonAll_112 : decode (yB Y_Mo_reckonAll) 112 = .ok (.iload 5, 2) := by decide +kernel
theorem d_Mo_reckonAll_114 : decode (yB Y_Mo_reckonAll) 114 = .ok (.ifCond .ne 9, 3) := by decide +kernel
theorem d_Mo_reckonAll_117 : decode (yB Y_Mo_reckonAll) 117 = .ok (.iload 6, 2) := by decide +kernel
theorem d_Mo_reckonAll_119 : decode (yB Y_Mo_reckonAll) 119 = .ok (.i2l, 1) := by decide +kernel
theorem d_Mo_reckonAll_120 : decode (yB Y_Mo_reckonAll) 120 = .ok (.goto 100, 3) := by decide +kernel
theorem d_Mo_reckonAll_123 : decode (yB Y_Mo_reckonAll) 123 = .ok (.aload_n 0, 1) := by decide +kernel
theorem d_Mo_reckonAll_124 : decode (yB Y_Mo_reckonAll) 124 = .ok (.getfield 331, 3) := by decide +kernel
theorem d_Mo_reckonAll_127 : decode (yB Y_Mo_reckonAll) 127 = .ok (.ifCond .ne 13, 3) := by decide +kernel
theorem d_Mo_reckonAll_130 : decode (yB Y_Mo_reckonAll) 130 = .ok (.aload_n 0, 1) := by decide +kernel
theorem d_Mo_reckonAll_131 : decode (yB Y_Mo_reckonAll) 131 = .ok (.getfield 103, 3) := by decide +kernel
theorem d_Mo_reckonAll_134 : decode (yB Y_Mo_reckonAll) 134 = .ok (.iload 5, 2) := by decide +kernel
theorem d_Mo_reckonAll_136 : decode (yB Y_Mo_reckonAll) 136 = .ok (.laload, 1) := by decide +kernel
theorem d_Mo_reckonAll_137 : decode (yB Y_Mo_reckonAll) 137 = .ok (.goto 83, 3) := by decide +kernel
theorem d_Mo_reckonAll_140 : decode (yB Y_Mo_reckonAll) 140 = .ok (.iload 5, 2) := by decide +kernel
theorem d_Mo_reckonAll_142 : decode (yB Y_Mo_reckonAll) 142 = .ok (.iconst 5, 1) := by decide +kernel
theorem d_Mo_reckonAll_143 : decode (yB Y_Mo_reckonAll) 143 = .ok (.if_icmp .ge 13, 3) := by decide +kernel
theorem d_Mo_reckonAll_146 : decode (yB Y_Mo_reckonAll) 146 = .ok (.aload_n 0, 1) := by decide +kernel
theorem d_Mo_reckonAll_147 : decode (yB Y_Mo_reckonAll) 147 = .ok (.getfield 106, 3) := by decide +kernel
theorem d_Mo_reckonAll_150 : decode (yB Y_Mo_reckonAll) 150 = .ok (.iload 5, 2) := by decide +kernel
theorem d_Mo_reckonAll_152 : decode (yB Y_Mo_reckonAll) 152 = .ok (.laload, 1) := by decide +kernel
theorem d_Mo_reckonAll_153 : decode (yB Y_Mo_reckonAll) 153 = .ok (.goto 67, 3) := by decide +kernel
theorem d_Mo_reckonAll_156 : decode (yB Y_Mo_reckonAll) 156 = .ok (.iload 5, 2) := by decide +kernel
theorem d_Mo_reckonAll_158 : decode (yB Y_Mo_reckonAll) 158 = .ok (.iconst 5, 1) := by decide +kernel
theorem d_Mo_reckonAll_159 : decode (yB Y_Mo_reckonAll) 159 = .ok (.if_icmp .ne 17, 3) := by decide +kernel
theorem d_Mo_reckonAll_162 : decode (yB Y_Mo_reckonAll) 162 = .ok (.aload_n 0, 1) := by decide +kernel
theorem d_Mo_reckonAll_163 : decode (yB Y_Mo_reckonAll) 163 = .ok (.getfield 13, 3) := by decide +kernel
theorem d_Mo_reckonAll_166 : decode (yB Y_Mo_reckonAll) 166 = .ok (.bipush 8, 2) := by decide +kernel
theorem d_Mo_reckonAll_168 : decode (yB Y_Mo_reckonAll) 168 = .ok (.iload 6, 2) := by decide +kernel
theorem d_Mo_reckonAll_170 : decode (yB Y_Mo_reckonAll) 170 = .ok (.iadd, 1) := by decide +kernel
theorem d_Mo_reckonAll_171 : decode (yB Y_Mo_reckonAll) 171 = .ok (.iaload, 1) := by decide +kernel
theorem d_Mo_reckonAll_172 : decode (yB Y_Mo_reckonAll) 172 = .ok (.i2l, 1) := by decide +kernel
theorem d_Mo_reckonAll_173 : decode (yB Y_Mo_reckonAll) 173 = .ok (.goto 47, 3) := by decide +kernel
theorem d_Mo_reckonAll_176 : decode (yB Y_Mo_reckonAll) 176 = .ok (.iload 5, 2) := by decide +kernel
theorem d_Mo_reckonAll_178 : decode (yB Y_Mo_reckonAll) 178 = .ok (.bipush 6, 2) := by decide +kernel
theorem d_Mo_reckonAll_180 : decode (yB Y_Mo_reckonAll) 180 = .ok (.if_icmp .le 14, 3) := by decide +kernel
theorem d_Mo_reckonAll_183 : decode (yB Y_Mo_reckonAll) 183 = .ok (.aload_n 0, 1) := by decide +kernel
theorem d_Mo_reckonAll_184 : decode (yB Y_Mo_reckonAll) 184 = .ok (.getfield 112, 3) := by decide +kernel
theorem d_Mo_reckonAll_187 : decode (yB Y_Mo_reckonAll) 187 = .ok (.iload 6, 2) := by decide +kernel
theorem d_Mo_reckonAll_189 : decode (yB Y_Mo_reckonAll) 189 = .ok (.iaload, 1) := by decide +kernel
theorem d_Mo_reckonAll_190 : decode (yB Y_Mo_reckonAll) 190 = .ok (.i2l, 1) := by decide +kernel
theorem d_Mo_reckonAll_191 : decode (yB Y_Mo_reckonAll) 191 = .ok (.goto 29, 3) := by decide +kernel
theorem d_Mo_reckonAll_194 : decode (yB Y_Mo_reckonAll) 194 = .ok (.aload_n 0, 1) := by decide +kernel
theorem d_Mo_reckonAll_195 : decode (yB Y_Mo_reckonAll) 195 = .ok (.iload 6, 2) := by decide +kernel
theorem d_Mo_reckonAll_197 : decode (yB Y_Mo_reckonAll) 197 = .ok (.invokevirtual 214, 3) := by decide +kernel
theorem d_Mo_reckonAll_200 : decode (yB Y_Mo_reckonAll) 200 = .ok (.ifCond .eq 17, 3) := by decide +kernel
theorem d_Mo_reckonAll_203 : decode (yB Y_Mo_reckonAll) 203 = .ok (.aload_n 0, 1) := by decide +kernel
theorem d_Mo_reckonAll_204 : decode (yB Y_Mo_reckonAll) 204 = .ok (.getfield 13, 3) := by decide +kernel
theorem d_Mo_reckonAll_207 : decode (yB Y_Mo_reckonAll) 207 = .ok (.bipush 48, 2) := by decide +kernel
theorem d_Mo_reckonAll_209 : decode (yB Y_Mo_reckonAll) 209 = .ok (.iload 6, 2) := by decide +kernel
theorem d_Mo_reckonAll_211 : decode (yB Y_Mo_reckonAll) 211 = .ok (.iadd, 1) := by decide +kernel
theorem d_Mo_reckonAll_212 : decode (yB Y_Mo_reckonAll) 212 = .ok (.iaload, 1) := by decide +kernel
theorem d_Mo_reckonAll_213 : decode (yB Y_Mo_reckonAll) 213 = .ok (.i2l, 1) := by decide +kernel
theorem d_Mo_reckonAll_214 : decode (yB Y_Mo_reckonAll) 214 = .ok (.goto 6, 3) := by decide +kernel
theorem d_Mo_reckonAll_217 : decode (yB Y_Mo_reckonAll) 217 = .ok (.ldc2_w 228, 3) := by decide +kernel
theorem d_Mo_reckonAll_220 : decode (yB Y_Mo_reckonAll) 220 = .ok (.lastore, 1) := by decide +kernel
theorem d_Mo_reckonAll_221 : decode (yB Y_Mo_reckonAll) 221 = .ok (.iinc 3 1, 3) := by decide +kernel
theorem d_Mo_reckonAll_224 : decode (yB Y_Mo_reckonAll) 224 = .ok (.goto 142, 3) := by decide +kernel
theorem d_Mo_reckonAll_227 : decode (yB Y_Mo_reckonAll) 227 = .ok (.iload 5, 2) := by decide +kernel
theorem d_Mo_reckonAll_229 : decode (yB Y_Mo_reckonAll) 229 = .ok (.bipush 28, 2) := by decide +kernel
theorem d_Mo_reckonAll_231 : decode (yB Y_Mo_reckonAll) 231 = .ok (.if_icmp .ge 73, 3) := by decide +kernel
theorem d_Mo_reckonAll_234 : decode (yB Y_Mo_reckonAll) 234 = .ok (.iinc 3 (-1), 3) := by decide +kernel
theorem d_Mo_reckonAll_237 : decode (yB Y_Mo_reckonAll) 237 = .ok (.aload_n 0, 1) := by decide +kernel
theorem d_Mo_reckonAll_238 : decode (yB Y_Mo_reckonAll) 238 = .ok (.getfield 109, 3) := by decide +kernel
theorem d_Mo_reckonAll_241 : decode (yB Y_Mo_reckonAll) 241 = .ok (.iload_n 3, 1) := by decide +kernel
theorem d_Mo_reckonAll_242 : decode (yB Y_Mo_reckonAll) 242 = .ok (.iconst 1, 1) := by decide +kernel
theorem d_Mo_reckonAll_243 : decode (yB Y_Mo_reckonAll) 243 = .ok (.isub, 1) := by decide +kernel
theorem d_Mo_reckonAll_244 : decode (yB Y_Mo_reckonAll) 244 = .ok (.aload_n 0, 1) := by decide +kernel
theorem d_Mo_reckonAll_245 : decode (yB Y_Mo_reckonAll) 245 = .ok (.iload 5, 2) := by decide +kernel
theorem d_Mo_reckonAll_247 : decode (yB Y_Mo_reckonAll) 247 = .ok (.aload_n 0, 1) := by decide +kernel
theorem d_Mo_reckonAll_248 : decode (yB Y_Mo_reckonAll) 248 = .ok (.getfield 109, 3) := by decide +kernel
theorem d_Mo_reckonAll_251 : decode (yB Y_Mo_reckonAll) 251 = .ok (.iload_n 3, 1) := by decide +kernel
theorem d_Mo_reckonAll_252 : decode (yB Y_Mo_reckonAll) 252 = .ok (.iconst 1, 1) := by decide +kernel
theorem d_Mo_reckonAll_253 : decode (yB Y_Mo_reckonAll) 253 = .ok (.isub, 1) := by decide +kernel
theorem d_Mo_reckonAll_254 : decode (yB Y_Mo_reckonAll) 254 = .ok (.laload, 1) := by decide +kernel
theorem d_Mo_reckonAll_255 : decode (yB Y_Mo_reckonAll) 255 = .ok (.aload_n 0, 1) := by decide +kernel
theorem d_Mo_reckonAll_256 : decode (yB Y_Mo_reckonAll) 256 = .ok (.getfield 109, 3) := by decide +kernel
theorem d_Mo_reckonAll_259 : decode (yB Y_Mo_reckonAll) 259 = .ok (.iload_n 3, 1) := by decide +kernel
theorem d_Mo_reckonAll_260 : decode (yB Y_Mo_reckonAll) 260 = .ok (.laload, 1) := by decide +kernel
theorem d_Mo_reckonAll_261 : decode (yB Y_Mo_reckonAll) 261 = .ok (.invokevirtual 411, 3) := by decide +kernel
theorem d_Mo_reckonAll_264 : decode (yB Y_Mo_reckonAll) 264 = .ok (.lastore, 1) := by decide +kernel
theorem d_Mo_reckonAll_265 : decode (yB Y_Mo_reckonAll) 265 = .ok (.aload_n 0, 1) := by decide +kernel
theorem d_Mo_reckonAll_266 : decode (yB Y_Mo_reckonAll) 266 = .ok (.aload_n 0, 1) := by decide +kernel
theorem d_Mo_reckonAll_267 : decode (yB Y_Mo_reckonAll) 267 = .ok (.getfield 405, 3) := by decide +kernel
theorem d_Mo_reckonAll_270 : decode (yB Y_Mo_reckonAll) 270 = .ok (.ifCond .ne 23, 3) := by decide +kernel
theorem d_Mo_reckonAll_273 : decode (yB Y_Mo_reckonAll) 273 = .ok (.aload_n 0, 1) := by decide +kernel
theorem d_Mo_reckonAll_274 : decode (yB Y_Mo_reckonAll) 274 = .ok (.getfield 109, 3) := by decide +kernel
theorem d_Mo_reckonAll_277 : decode (yB Y_Mo_reckonAll) 277 = .ok (.iload_n 3, 1) := by decide +kernel
theorem d_Mo_reckonAll_278 : decode (yB Y_Mo_reckonAll) 278 = .ok (.iconst 1, 1) := by decide +kernel
theorem d_Mo_reckonAll_279 : decode (yB Y_Mo_reckonAll) 279 = .ok (.isub, 1) := by decide +kernel
theorem d_Mo_reckonAll_280 : decode (yB Y_Mo_reckonAll) 280 = .ok (.laload, 1) := by decide +kernel
theorem d_Mo_reckonAll_281 : decode (yB Y_Mo_reckonAll) 281 = .ok (.ldc2_w 415, 3) := by decide +kernel
theorem d_Mo_reckonAll_284 : decode (yB Y_Mo_reckonAll) 284 = .ok (.ldc2_w 417, 3) := by decide +kernel
theorem d_Mo_reckonAll_287 : decode (yB Y_Mo_reckonAll) 287 = .ok (.invokestatic 176, 3) := by decide +kernel
theorem d_Mo_reckonAll_290 : decode (yB Y_Mo_reckonAll) 290 = .ok (.ifCond .ne 7, 3) := by decide +kernel
theorem d_Mo_reckonAll_293 : decode (yB Y_Mo_reckonAll) 293 = .ok (.iconst 1, 1) := by decide +kernel
theorem d_Mo_reckonAll_294 : decode (yB Y_Mo_reckonAll) 294 = .ok (.goto 4, 3) := by decide +kernel
theorem d_Mo_reckonAll_297 : decode (yB Y_Mo_reckonAll) 297 = .ok (.iconst 0, 1) := by decide +kernel
theorem d_Mo_reckonAll_298 : decode (yB Y_Mo_reckonAll) 298 = .ok (.putfield 405, 3) := by decide +kernel
theorem d_Mo_reckonAll_301 : decode (yB Y_Mo_reckonAll) 301 = .ok (.goto 65, 3) := by decide +kernel
theorem d_Mo_reckonAll_304 : decode (yB Y_Mo_reckonAll) 304 = .ok (.iload 5, 2) := by decide +kernel
theorem d_Mo_reckonAll_306 : decode (yB Y_Mo_reckonAll) 306 = .ok (.bipush 28, 2) := by decide +kernel
theorem d_Mo_reckonAll_308 : decode (yB Y_Mo_reckonAll) 308 = .ok (.if_icmp .ne 24, 3) := by decide +kernel
theorem d_Mo_reckonAll_311 : decode (yB Y_Mo_reckonAll) 311 = .ok (.aload_n 0, 1) := by decide +kernel
theorem d_Mo_reckonAll_312 : decode (yB Y_Mo_reckonAll) 312 = .ok (.getfield 109, 3) := by decide +kernel
theorem d_Mo_reckonAll_315 : decode (yB Y_Mo_reckonAll) 315 = .ok (.iload_n 3, 1) := by decide +kernel
theorem d_Mo_reckonAll_316 : decode (yB Y_Mo_reckonAll) 316 = .ok (.iconst 1, 1) := by decide +kernel
theorem d_Mo_reckonAll_317 : decode (yB Y_Mo_reckonAll) 317 = .ok (.isub, 1) := by decide +kernel
theorem d_Mo_reckonAll_318 : decode (yB Y_Mo_reckonAll) 318 = .ok (.lconst 1, 1) := by decide +kernel
theorem d_Mo_reckonAll_319 : decode (yB Y_Mo_reckonAll) 319 = .ok (.aload_n 0, 1) := by decide +kernel
theorem d_Mo_reckonAll_320 : decode (yB Y_Mo_reckonAll) 320 = .ok (.getfield 109, 3) := by decide +kernel
theorem d_Mo_reckonAll_323 : decode (yB Y_Mo_reckonAll) 323 = .ok (.iload_n 3, 1) := by decide +kernel
theorem d_Mo_reckonAll_324 : decode (yB Y_Mo_reckonAll) 324 = .ok (.iconst 1, 1) := by decide +kernel
theorem d_Mo_reckonAll_325 : decode (yB Y_Mo_reckonAll) 325 = .ok (.isub, 1) := by decide +kernel
theorem d_Mo_reckonAll_326 : decode (yB Y_Mo_reckonAll) 326 = .ok (.laload, 1) := by decide +kernel
theorem d_Mo_reckonAll_327 : decode (yB Y_Mo_reckonAll) 327 = .ok (.lsub, 1) := by decide +kernel
theorem d_Mo_reckonAll_328 : decode (yB Y_Mo_reckonAll) 328 = .ok (.lastore, 1) := by decide +kernel
theorem d_Mo_reckonAll_329 : decode (yB Y_Mo_reckonAll) 329 = .ok (.goto 37, 3) := by decide +kernel
theorem d_Mo_reckonAll_332 : decode (yB Y_Mo_reckonAll) 332 = .ok (.aload_n 0, 1) := by decide +kernel
theorem d_Mo_reckonAll_333 : decode (yB Y_Mo_reckonAll) 333 = .ok (.getfield 109, 3) := by decide +kernel
theorem d_Mo_reckonAll_336 : decode (yB Y_Mo_reckonAll) 336 = .ok (.iload_n 3, 1) := by decide +kernel
theorem d_Mo_reckonAll_337 : decode (yB Y_Mo_reckonAll) 337 = .ok (.iconst 1, 1) := by decide +kernel
theorem d_Mo_reckonAll_338 : decode (yB Y_Mo_reckonAll) 338 = .ok (.isub, 1) := by decide +kernel
theorem d_Mo_reckonAll_339 : decode (yB Y_Mo_reckonAll) 339 = .ok (.laload, 1) := by decide +kernel
theorem d_Mo_reckonAll_340 : decode (yB Y_Mo_reckonAll) 340 = .ok (.iload 5, 2) := by decide +kernel
theorem d_Mo_reckonAll_342 : decode (yB Y_Mo_reckonAll) 342 = .ok (.bipush 29, 2) := by decide +kernel
theorem d_Mo_reckonAll_344 : decode (yB Y_Mo_reckonAll) 344 = .ok (.if_icmp .ne 7, 3) := by decide +kernel
theorem d_Mo_reckonAll_347 : decode (yB Y_Mo_reckonAll) 347 = .ok (.lconst 0, 1) := by decide +kernel
theorem d_Mo_reckonAll_348 : decode (yB Y_Mo_reckonAll) 348 = .ok (.goto 4, 3) := by decide +kernel
theorem d_Mo_reckonAll_351 : decode (yB Y_Mo_reckonAll) 351 = .ok (.lconst 1, 1) := by decide +kernel
theorem d_Mo_reckonAll_352 : decode (yB Y_Mo_reckonAll) 352 = .ok (.lcmp, 1) := by decide +kernel
theorem d_Mo_reckonAll_353 : decode (yB Y_Mo_reckonAll) 353 = .ok (.ifCond .ne 10, 3) := by decide +kernel
theorem d_Mo_reckonAll_356 : decode (yB Y_Mo_reckonAll) 356 = .ok (.iload 6, 2) := by decide +kernel
theorem d_Mo_reckonAll_358 : decode (yB Y_Mo_reckonAll) 358 = .ok (.istore 4, 2) := by decide +kernel
theorem d_Mo_reckonAll_360 : decode (yB Y_Mo_reckonAll) 360 = .ok (.goto 6, 3) := by decide +kernel
theorem d_Mo_reckonAll_363 : decode (yB Y_Mo_reckonAll) 363 = .ok (.iinc 3 (-1), 3) := by decide +kernel
theorem d_Mo_reckonAll_366 : decode (yB Y_Mo_reckonAll) 366 = .ok (.goto (-356), 3) := by decide +kernel
theorem d_Mo_reckonAll_369 : decode (yB Y_Mo_reckonAll) 369 = .ok (.aload_n 0, 1) := by decide +kernel
theorem d_Mo_reckonAll_370 : decode (yB Y_Mo_reckonAll) 370 = .ok (.iload_n 3, 1) := by decide +kernel
theorem d_Mo_reckonAll_371 : decode (yB Y_Mo_reckonAll) 371 = .ok (.ifCond .le 12, 3) := by decide +kernel
theorem d_Mo_reckonAll_374 : decode (yB Y_Mo_reckonAll) 374 = .ok (.aload_n 0, 1) := by decide +kernel
theorem d_Mo_reckonAll_375 : decode (yB Y_Mo_reckonAll) 375 = .ok (.getfield 109, 3) := by decide +kernel
theorem d_Mo_reckonAll_378 : decode (yB Y_Mo_reckonAll) 378 = .ok (.iconst 0, 1) := by decide +kernel
theorem d_Mo_reckonAll_379 : decode (yB Y_Mo_reckonAll) 379 = .ok (.laload, 1) := by decide +kernel
theorem d_Mo_reckonAll_380 : decode (yB Y_Mo_reckonAll) 380 = .ok (.goto 4, 3) := by decide +kernel
theorem d_Mo_reckonAll_383 : decode (yB Y_Mo_reckonAll) 383 = .ok (.lconst 0, 1) := by decide +kernel
theorem d_Mo_reckonAll_384 : decode (yB Y_Mo_reckonAll) 384 = .ok (.putfield 419, 3) := by decide +kernel
theorem d_Mo_reckonAll_387 : decode (yB Y_Mo_reckonAll) 387 = .ok (.return_, 1) := by decide +kernel
def F_Mo_reckonAll_b366 (n : Nat) (E : zE) (S : zS) (r10 : Nat × Int32 × Int32 × Int32 × zH → Option (zH)) (a0 : Nat) (x2 : Int32) (x3 : Int32) (x4 : Int32) (M : zH) : Option (zH) :=
  r10 (a0, x2, x3, x4, M)
def F_Mo_reckonAll_b220 (n : Nat) (E : zE) (S : zS) (r10 : Nat × Int32 × Int32 × Int32 × zH → Option (zH)) (a0 : Nat) (x2 : Int32) (x3 : Int32) (x4 : Int32) (t0 : Int64) (s1 : Int32) (u2 : Nat) (M : zH) : Option (zH) :=
  (zstJ S M u2 s1 t0).bind fun m1 =>
  F_Mo_reckonAll_b366 n E S r10 a0 x2 (x3 + 1) x4 m1
def F_Mo_reckonAll_b298 (n : Nat) (E : zE) (S : zS) (r10 : Nat × Int32 × Int32 × Int32 × zH → Option (zH)) (a0 : Nat) (x2 : Int32) (x3 : Int32) (x4 : Int32) (s0 : Int32) (u1 : Nat) (M : zH) : Option (zH) :=
  (zpZ S M u1 11 38 s0).bind fun m2 =>
  F_Mo_reckonAll_b366 n E S r10 a0 x2 x3 x4 m2
def F_Mo_reckonAll_b293 (n : Nat) (E : zE) (S : zS) (r10 : Nat × Int32 × Int32 × Int32 × zH → Option (zH)) (a0 : Nat) (x2 : Int32) (x3 : Int32) (x4 : Int32) (u0 : Nat) (M : zH) : Option (zH) :=
  F_Mo_reckonAll_b298 n E S r10 a0 x2 x3 x4 1 u0 M
def F_Mo_reckonAll_b352 (n : Nat) (E : zE) (S : zS) (r10 : Nat × Int32 × Int32 × Int32 × zH → Option (zH)) (a0 : Nat) (x2 : Int32) (x3 : Int32) (x4 : Int32) (x6 : Int32) (t0 : Int64) (t1 : Int64) (M : zH) : Option (zH) :=
  if t1 = t0 then
    F_Mo_reckonAll_b366 n E S r10 a0 x2 x3 x6 M
  else
    F_Mo_reckonAll_b366 n E S r10 a0 x2 (x3 + (-1)) x4 M
def F_Mo_reckonAll_b95 (n : Nat) (E : zE) (S : zS) (r10 : Nat × Int32 × Int32 × Int32 × zH → Option (zH)) (a0 : Nat) (x2 : Int32) (x3 : Int32) (x4 : Int32) (x5 : Int32) (s0 : Int32) (M : zH) : Option (zH) :=
  if 20 ≤ x5 then
    if 28 ≤ x5 then
      if x5 = 28 then
        (zgR S a0 11 37).bind fun b7 =>
        (zldJ S M b7 (x3 - 1)).bind fun v8 =>
        (zstJ S M b7 (x3 - 1) (1 - v8)).bind fun m9 =>
        F_Mo_reckonAll_b366 n E S r10 a0 x2 x3 (x4 + 1) m9
      else
        (zgR S a0 11 37).bind fun b10 =>
        (zldJ S M b10 (x3 - 1)).bind fun v11 =>
        if x5 = 29 then
          F_Mo_reckonAll_b352 n E S r10 a0 x2 x3 (x4 + 1) s0 0 v11 M
        else
          F_Mo_reckonAll_b352 n E S r10 a0 x2 x3 (x4 + 1) s0 1 v11 M
    else
      (zgR S a0 11 37).bind fun b13 =>
      (zldJ S M b13 ((x3 + (-1)) - 1)).bind fun v14 =>
      (zldJ S M b13 (x3 + (-1))).bind fun v15 =>
      (F_Mo_reckon n E S a0 x5 v14 v15 M).bind fun q16 =>
      (zstJ S q16.2 b13 ((x3 + (-1)) - 1) q16.1).bind fun m17 =>
      (zgI S m17 a0 11 38).bind fun v18 =>
      if v18 = 0 then
        (zldJ S m17 b13 ((x3 + (-1)) - 1)).bind fun v20 =>
        (F_Mo_in n E S v20 (-1000000000) 1000000000 m17).bind fun q21 =>
        if q21.1 = true then
          F_Mo_reckonAll_b298 n E S r10 a0 x2 (x3 + (-1)) (x4 + 1) 0 a0 q21.2
        else
          F_Mo_reckonAll_b293 n E S r10 a0 x2 (x3 + (-1)) (x4 + 1) a0 q21.2
      else
        F_Mo_reckonAll_b293 n E S r10 a0 x2 (x3 + (-1)) (x4 + 1) a0 m17
  else
    (zgR S a0 11 37).bind fun b23 =>
    if x5 = 0 then
      F_Mo_reckonAll_b220 n E S r10 a0 x2 x3 (x4 + 1) s0.toInt64 x3 b23 M
    else
      (zgI S M a0 11 20).bind fun v25 =>
      if v25 = 0 then
        (zgR S a0 11 35).bind fun b27 =>
        (zldJ S M b27 x5).bind fun v28 =>
        F_Mo_reckonAll_b220 n E S r10 a0 x2 x3 (x4 + 1) v28 x3 b23 M
      else
        if 5 ≤ x5 then
          if x5 = 5 then
            (zgR S a0 11 3).bind fun b31 =>
            (zldI S M b31 (8 + s0)).bind fun v32 =>
            F_Mo_reckonAll_b220 n E S r10 a0 x2 x3 (x4 + 1) v32.toInt64 x3 b23 M
          else
            if x5 ≤ 6 then
              (F_Mo_isBucket n E S a0 s0 M).bind fun q34 =>
              if q34.1 = true then
                (zgR S a0 11 3).bind fun b36 =>
                (zldI S q34.2 b36 (48 + s0)).bind fun v37 =>
                F_Mo_reckonAll_b220 n E S r10 a0 x2 x3 (x4 + 1) v37.toInt64 x3 b23 q34.2
              else
                F_Mo_reckonAll_b220 n E S r10 a0 x2 x3 (x4 + 1) (-1) x3 b23 q34.2
            else
              (zgR S a0 11 41).bind fun b38 =>
              (zldI S M b38 s0).bind fun v39 =>
              F_Mo_reckonAll_b220 n E S r10 a0 x2 x3 (x4 + 1) v39.toInt64 x3 b23 M
        else
          (zgR S a0 11 36).bind fun b40 =>
          (zldJ S M b40 x5).bind fun v41 =>
          F_Mo_reckonAll_b220 n E S r10 a0 x2 x3 (x4 + 1) v41 x3 b23 M
def F_Mo_reckonAll_b57 (n : Nat) (E : zE) (S : zS) (r10 : Nat × Int32 × Int32 × Int32 × zH → Option (zH)) (a0 : Nat) (x2 : Int32) (x3 : Int32) (x4 : Int32) (s0 : Int32) (M : zH) : Option (zH) :=
  (zgI S M a0 11 20).bind fun v42 =>
  if v42 = 0 then
    (zgR S a0 11 3).bind fun b44 =>
    (zgI S M a0 11 34).bind fun v45 =>
    (zldI S M b44 (((v45 + 98) + (2 * x4)) + 1)).bind fun v46 =>
    F_Mo_reckonAll_b95 n E S r10 a0 x2 x3 x4 s0 v46 M
  else
    (zgR S a0 11 25).bind fun b47 =>
    (zldI S M b47 x4).bind fun v48 =>
    F_Mo_reckonAll_b95 n E S r10 a0 x2 x3 x4 s0 v48 M
def F_Mo_reckonAll_b384 (n : Nat) (E : zE) (S : zS) (t0 : Int64) (u1 : Nat) (M : zH) : Option (zH) :=
  (zpJ S M u1 11 39 t0).bind fun m49 =>
  some (m49)
def F_Mo_reckonAll_b369 (n : Nat) (E : zE) (S : zS) (a0 : Nat) (x3 : Int32) (M : zH) : Option (zH) :=
  if x3 ≤ 0 then
    F_Mo_reckonAll_b384 n E S 0 a0 M
  else
    (zgR S a0 11 37).bind fun b51 =>
    (zldJ S M b51 0).bind fun v52 =>
    F_Mo_reckonAll_b384 n E S v52 a0 M
def F_Mo_reckonAll_L10 (n : Nat) (E : zE) (S : zS) (r10 : Nat × Int32 × Int32 × Int32 × zH → Option (zH)) (a0 : Nat) (x2 : Int32) (x3 : Int32) (x4 : Int32) (M : zH) : Option (zH) :=
  if x2 ≤ x4 then
    F_Mo_reckonAll_b369 n E S a0 x3 M
  else
    (zgI S M a0 11 38).bind fun v54 =>
    if v54 = 0 then
      (zgI S M a0 11 20).bind fun v56 =>
      if v56 = 0 then
        (zgR S a0 11 3).bind fun b58 =>
        (zgI S M a0 11 34).bind fun v59 =>
        (zldI S M b58 ((v59 + 98) + (2 * x4))).bind fun v60 =>
        F_Mo_reckonAll_b57 n E S r10 a0 x2 x3 x4 v60 M
      else
        (zgR S a0 11 24).bind fun b61 =>
        (zldI S M b61 x4).bind fun v62 =>
        F_Mo_reckonAll_b57 n E S r10 a0 x2 x3 x4 v62 M
    else
      F_Mo_reckonAll_b369 n E S a0 x3 M
def F_Mo_reckonAll_b10 (n : Nat) (E : zE) (S : zS) : Nat × Int32 × Int32 × Int32 × zH → Option (zH) := zfix (fun r10 s => F_Mo_reckonAll_L10 n E S r10 s.1 s.2.1 s.2.2.1 s.2.2.2.1 s.2.2.2.2) n
def F_Mo_reckonAll (n : Nat) (E : zE) (S : zS) (a0 : Nat) (x1 : Int32) (x2 : Int32) (M : zH) : Option (zH) :=
  (zpZ S M a0 11 38 0).bind fun m63 =>
  F_Mo_reckonAll_b10 n E S (a0, x2, 0, x1, m63)
theorem K_Mo_reckonAll_b366 (n : Nat) (E : zE) (S : zS) (r10 : Nat × Int32 × Int32 × Int32 × zH → Option (zH)) (a0 : Nat) (x2 : Int32) (x3 : Int32) (x4 : Int32) (M : zH) (M' : zH) (hr10 : ∀ (a0 : Nat) (x2 : Int32) (x3 : Int32) (x4 : Int32) (M : zH), r10 (a0, x2, x3, x4, M) = some M' → zG E Y_Mo_reckonAll (none, S, M') 10 [(0, .ref a0), (2, .int x2), (3, .int x3), (4, .int x4)] [] S M 0 0) (h : F_Mo_reckonAll_b366 n E S r10 a0 x2 x3 x4 M = some M') : zG E Y_Mo_reckonAll (none, S, M') 366 [(0, .ref a0), (2, .int x2), (3, .int x3), (4, .int x4)] [] S M 0 0 := by
  unfold F_Mo_reckonAll_b366 at h
  refine zi_goto (tgt := 10) d_Mo_reckonAll_366 rfl ?_
  refine zi_lo [(0, .ref a0), (2, .int x2), (3, .int x3), (4, .int x4)] [0, 1, 2, 3] rfl ?_
  exact hr10 a0 x2 x3 x4 M h
theorem K_Mo_reckonAll_b220 (n : Nat) (E : zE) (S : zS) (r10 : Nat × Int32 × Int32 × Int32 × zH → Option (zH)) (a0 : Nat) (x2 : Int32) (x3 : Int32) (x4 : Int32) (t0 : Int64) (s1 : Int32) (u2 : Nat) (M : zH) (M' : zH) (hr10 : ∀ (a0 : Nat) (x2 : Int32) (x3 : Int32) (x4 : Int32) (M : zH), r10 (a0, x2, x3, x4, M) = some M' → zG E Y_Mo_reckonAll (none, S, M') 10 [(0, .ref a0), (2, .int x2), (3, .int x3), (4, .int x4)] [] S M 0 0) (h : F_Mo_reckonAll_b220 n E S r10 a0 x2 x3 x4 t0 s1 u2 M = some M') : zG E Y_Mo_reckonAll (none, S, M') 220 [(0, .ref a0), (2, .int x2), (3, .int x3), (4, .int x4)] [.long t0, .int s1, .ref u2] S M 0 0 := by
  unfold F_Mo_reckonAll_b220 at h
  obtain ⟨m1, em1, h⟩ := zbind h
  refine zo_last 221 d_Mo_reckonAll_220 em1 rfl ?_
  refine zi_iinc 2 (x3 + 1) [(3, .int (x3 + 1)), (0, .ref a0), (2, .int x2), (4, .int x4)] d_Mo_reckonAll_221 rfl rfl (by decide) rfl ?_
  refine zi_goto (tgt := 366) d_Mo_reckonAll_224 rfl ?_
  refine zi_lo [(0, .ref a0), (2, .int x2), (3, .int (x3 + 1)), (4, .int x4)] [1, 2, 0, 3] rfl ?_
  exact K_Mo_reckonAll_b366 n E S r10 a0 x2 (x3 + 1) x4 m1 M' hr10 h
theorem K_Mo_reckonAll_b298 (n : Nat) (E : zE) (S : zS) (r10 : Nat × Int32 × Int32 × Int32 × zH → Option (zH)) (a0 : Nat) (x2 : Int32) (x3 : Int32) (x4 : Int32) (s0 : Int32) (u1 : Nat) (M : zH) (M' : zH) (hr10 : ∀ (a0 : Nat) (x2 : Int32) (x3 : Int32) (x4 : Int32) (M : zH), r10 (a0, x2, x3, x4, M) = some M' → zG E Y_Mo_reckonAll (none, S, M') 10 [(0, .ref a0), (2, .int x2), (3, .int x3), (4, .int x4)] [] S M 0 0) (h : F_Mo_reckonAll_b298 n E S r10 a0 x2 x3 x4 s0 u1 M = some M') : zG E Y_Mo_reckonAll (none, S, M') 298 [(0, .ref a0), (2, .int x2), (3, .int x3), (4, .int x4)] [.int s0, .ref u1] S M 0 0 := by
  unfold F_Mo_reckonAll_b298 at h
  obtain ⟨m2, em2, h⟩ := zbind h
  refine zo_putZ 301 zkd_11 38 d_Mo_reckonAll_298 em2 rfl rfl rfl tw_1269 rfl ?_
  refine zi_goto (tgt := 366) d_Mo_reckonAll_301 rfl ?_
  refine zi_lo [(0, .ref a0), (2, .int x2), (3, .int x3), (4, .int x4)] [0, 1, 2, 3] rfl ?_
  exact K_Mo_reckonAll_b366 n E S r10 a0 x2 x3 x4 m2 M' hr10 h
theorem K_Mo_reckonAll_b293 (n : Nat) (E : zE) (S : zS) (r10 : Nat × Int32 × Int32 × Int32 × zH → Option (zH)) (a0 : Nat) (x2 : Int32) (x3 : Int32) (x4 : Int32) (u0 : Nat) (M : zH) (M' : zH) (hr10 : ∀ (a0 : Nat) (x2 : Int32) (x3 : Int32) (x4 : Int32) (M : zH), r10 (a0, x2, x3, x4, M) = some M' → zG E Y_Mo_reckonAll (none, S, M') 10 [(0, .ref a0), (2, .int x2), (3, .int x3), (4, .int x4)] [] S M 0 0) (h : F_Mo_reckonAll_b293 n E S r10 a0 x2 x3 x4 u0 M = some M') : zG E Y_Mo_reckonAll (none, S, M') 293 [(0, .ref a0), (2, .int x2), (3, .int x3), (4, .int x4)] [.ref u0] S M 0 0 := by
  unfold F_Mo_reckonAll_b293 at h
  refine zi_iconst 1 d_Mo_reckonAll_293 rfl ?_
  refine zi_goto (tgt := 298) d_Mo_reckonAll_294 rfl ?_
  refine zi_lo [(0, .ref a0), (2, .int x2), (3, .int x3), (4, .int x4)] [0, 1, 2, 3] rfl ?_
  exact K_Mo_reckonAll_b298 n E S r10 a0 x2 x3 x4 1 u0 M M' hr10 h
theorem K_Mo_reckonAll_b352 (n : Nat) (E : zE) (S : zS) (r10 : Nat × Int32 × Int32 × Int32 × zH → Option (zH)) (a0 : Nat) (x2 : Int32) (x3 : Int32) (x4 : Int32) (x6 : Int32) (t0 : Int64) (t1 : Int64) (M : zH) (M' : zH) (hr10 : ∀ (a0 : Nat) (x2 : Int32) (x3 : Int32) (x4 : Int32) (M : zH), r10 (a0, x2, x3, x4, M) = some M' → zG E Y_Mo_reckonAll (none, S, M') 10 [(0, .ref a0), (2, .int x2), (3, .int x3), (4, .int x4)] [] S M 0 0) (h : F_Mo_reckonAll_b352 n E S r10 a0 x2 x3 x4 x6 t0 t1 M = some M') : zG E Y_Mo_reckonAll (none, S, M') 352 [(0, .ref a0), (2, .int x2), (3, .int x3), (4, .int x4), (6, .int x6)] [.long t0, .long t1] S M 0 0 := by
  unfold F_Mo_reckonAll_b352 at h
  refine zo_lc_ne d_Mo_reckonAll_352 d_Mo_reckonAll_353 rfl 356 rfl (fun c3 => ?_) (fun c3 => ?_)
  · rw [if_neg c3] at h
    refine zi_iinc 2 (x3 + (-1)) [(3, .int (x3 + (-1))), (0, .ref a0), (2, .int x2), (4, .int x4), (6, .int x6)] d_Mo_reckonAll_363 rfl rfl (by decide) rfl ?_
    refine zi_lo [(0, .ref a0), (2, .int x2), (3, .int (x3 + (-1))), (4, .int x4)] [1, 2, 0, 3] rfl ?_
    exact K_Mo_reckonAll_b366 n E S r10 a0 x2 (x3 + (-1)) x4 M M' hr10 h
  · rw [if_pos c3] at h
    refine zi_iload 4 d_Mo_reckonAll_356 rfl ?_
    refine zi_istore [(4, .int x6), (0, .ref a0), (2, .int x2), (3, .int x3), (6, .int x6)] d_Mo_reckonAll_358 (by decide) rfl ?_
    refine zi_goto (tgt := 366) d_Mo_reckonAll_360 rfl ?_
    refine zi_lo [(0, .ref a0), (2, .int x2), (3, .int x3), (4, .int x6)] [1, 2, 3, 0] rfl ?_
    exact K_Mo_reckonAll_b366 n E S r10 a0 x2 x3 x6 M M' hr10 h
theorem K_Mo_reckonAll_b95 (n : Nat) (E : zE) (S : zS) (r10 : Nat × Int32 × Int32 × Int32 × zH → Option (zH)) (a0 : Nat) (x2 : Int32) (x3 : Int32) (x4 : Int32) (x5 : Int32) (s0 : Int32) (M : zH) (M' : zH) (hr10 : ∀ (a0 : Nat) (x2 : Int32) (x3 : Int32) (x4 : Int32) (M : zH), r10 (a0, x2, x3, x4, M) = some M' → zG E Y_Mo_reckonAll (none, S, M') 10 [(0, .ref a0), (2, .int x2), (3, .int x3), (4, .int x4)] [] S M 0 0) (h : F_Mo_reckonAll_b95 n E S r10 a0 x2 x3 x4 x5 s0 M = some M') : zG E Y_Mo_reckonAll (none, S, M') 95 [(0, .ref a0), (2, .int x2), (3, .int x3), (4, .int x4), (5, .int x5)] [.int s0] S M 0 0 := by
  unfold F_Mo_reckonAll_b95 at h
  refine zi_istore [(6, .int s0), (0, .ref a0), (2, .int x2), (3, .int x3), (4, .int x4), (5, .int x5)] d_Mo_reckonAll_95 (by decide) rfl ?_
  refine zi_iinc 4 (x4 + 1) [(4, .int (x4 + 1)), (6, .int s0), (0, .ref a0), (2, .int x2), (3, .int x3), (5, .int x5)] d_Mo_reckonAll_97 rfl rfl (by decide) rfl ?_
  refine zi_iload 5 d_Mo_reckonAll_100 rfl ?_
  refine zi_bipush 20 d_Mo_reckonAll_102 rfl ?_
  refine zi_icmp_ge (tgt := 227) d_Mo_reckonAll_104 rfl (fun c4 => ?_) (fun c4 => ?_)
  · rw [if_pos c4] at h
    refine zi_iload 5 d_Mo_reckonAll_227 rfl ?_
    refine zi_bipush 28 d_Mo_reckonAll_229 rfl ?_
    refine zi_icmp_ge (tgt := 304) d_Mo_reckonAll_231 rfl (fun c5 => ?_) (fun c5 => ?_)
    · rw [if_pos c5] at h
      refine zi_iload 5 d_Mo_reckonAll_304 rfl ?_
      refine zi_bipush 28 d_Mo_reckonAll_306 rfl ?_
      refine zi_icmp_ne (tgt := 332) d_Mo_reckonAll_308 rfl (fun c6 => ?_) (fun c6 => ?_)
      · rw [if_neg c6] at h
        refine zi_aload_n 2 d_Mo_reckonAll_332 rfl ?_
        obtain ⟨b10, eb10, h⟩ := zbind h
        refine zo_getR 336 zkd_11 37 d_Mo_reckonAll_333 eb10 rfl tw_1268 rfl ?_
        refine zi_iload_n 4 d_Mo_reckonAll_336 rfl ?_
        refine zi_iconst 1 d_Mo_reckonAll_337 rfl ?_
        refine zi_isub d_Mo_reckonAll_338 ?_
        obtain ⟨v11, ev11, h⟩ := zbind h
        refine zo_lald 340 d_Mo_reckonAll_339 ev11 rfl ?_
        refine zi_iload 5 d_Mo_reckonAll_340 rfl ?_
        refine zi_bipush 29 d_Mo_reckonAll_342 rfl ?_
        refine zi_icmp_ne (tgt := 351) d_Mo_reckonAll_344 rfl (fun c12 => ?_) (fun c12 => ?_)
        · rw [if_neg c12] at h
          refine zi_lconst 1 d_Mo_reckonAll_351 rfl ?_
          refine zi_lo [(0, .ref a0), (2, .int x2), (3, .int x3), (4, .int (x4 + 1)), (6, .int s0)] [2, 3, 4, 0, 1] rfl ?_
          exact K_Mo_reckonAll_b352 n E S r10 a0 x2 x3 (x4 + 1) s0 1 v11 M M' hr10 h
        · rw [if_pos c12] at h
          refine zi_lconst 0 d_Mo_reckonAll_347 rfl ?_
          refine zi_goto (tgt := 352) d_Mo_reckonAll_348 rfl ?_
          refine zi_lo [(0, .ref a0), (2, .int x2), (3, .int x3), (4, .int (x4 + 1)), (6, .int s0)] [2, 3, 4, 0, 1] rfl ?_
          exact K_Mo_reckonAll_b352 n E S r10 a0 x2 x3 (x4 + 1) s0 0 v11 M M' hr10 h
      · rw [if_pos c6] at h
        refine zi_aload_n 2 d_Mo_reckonAll_311 rfl ?_
        obtain ⟨b7, eb7, h⟩ := zbind h
        refine zo_getR 315 zkd_11 37 d_Mo_reckonAll_312 eb7 rfl tw_1268 rfl ?_
        refine zi_iload_n 4 d_Mo_reckonAll_315 rfl ?_
        refine zi_iconst 1 d_Mo_reckonAll_316 rfl ?_
        refine zi_isub d_Mo_reckonAll_317 ?_
        refine zi_lconst 1 d_Mo_reckonAll_318 rfl ?_
        refine zi_aload_n 2 d_Mo_reckonAll_319 rfl ?_
        refine zo_getR 323 zkd_11 37 d_Mo_reckonAll_320 eb7 rfl tw_1268 rfl ?_
        refine zi_iload_n 4 d_Mo_reckonAll_323 rfl ?_
        refine zi_iconst 1 d_Mo_reckonAll_324 rfl ?_
        refine zi_isub d_Mo_reckonAll_325 ?_
        obtain ⟨v8, ev8, h⟩ := zbind h
        refine zo_lald 327 d_Mo_reckonAll_326 ev8 rfl ?_
        refine zi_lsub d_Mo_reckonAll_327 ?_
        obtain ⟨m9, em9, h⟩ := zbind h
        refine zo_last 329 d_Mo_reckonAll_328 em9 rfl ?_
        refine zi_goto (tgt := 366) d_Mo_reckonAll_329 rfl ?_
        refine zi_lo [(0, .ref a0), (2, .int x2), (3, .int x3), (4, .int (x4 + 1))] [2, 3, 4, 0] rfl ?_
        exact K_Mo_reckonAll_b366 n E S r10 a0 x2 x3 (x4 + 1) m9 M' hr10 h
    · rw [if_neg c5] at h
      refine zi_iinc 4 (x3 + (-1)) [(3, .int (x3 + (-1))), (4, .int (x4 + 1)), (6, .int s0), (0, .ref a0), (2, .int x2), (5, .int x5)] d_Mo_reckonAll_234 rfl rfl (by decide) rfl ?_
      refine zi_aload_n 3 d_Mo_reckonAll_237 rfl ?_
      obtain ⟨b13, eb13, h⟩ := zbind h
      refine zo_getR 241 zkd_11 37 d_Mo_reckonAll_238 eb13 rfl tw_1268 rfl ?_
      refine zi_iload_n 0 d_Mo_reckonAll_241 rfl ?_
      refine zi_iconst 1 d_Mo_reckonAll_242 rfl ?_
      refine zi_isub d_Mo_reckonAll_243 ?_
      refine zi_aload_n 3 d_Mo_reckonAll_244 rfl ?_
      refine zi_iload 5 d_Mo_reckonAll_245 rfl ?_
      refine zi_aload_n 3 d_Mo_reckonAll_247 rfl ?_
      refine zo_getR 251 zkd_11 37 d_Mo_reckonAll_248 eb13 rfl tw_1268 rfl ?_
      refine zi_iload_n 0 d_Mo_reckonAll_251 rfl ?_
      refine zi_iconst 1 d_Mo_reckonAll_252 rfl ?_
      refine zi_isub d_Mo_reckonAll_253 ?_
      obtain ⟨v14, ev14, h⟩ := zbind h
      refine zo_lald 255 d_Mo_reckonAll_254 ev14 rfl ?_
      refine zi_aload_n 3 d_Mo_reckonAll_255 rfl ?_
      refine zo_getR 259 zkd_11 37 d_Mo_reckonAll_256 eb13 rfl tw_1268 rfl ?_
      refine zi_iload_n 0 d_Mo_reckonAll_259 rfl ?_
      obtain ⟨v15, ev15, h⟩ := zbind h
      refine zo_lald 261 d_Mo_reckonAll_260 ev15 rfl ?_
      obtain ⟨q16, eq16, h⟩ := zbind h
      refine zo_virt (k' := 0) (n' := 0) 264 [.int x5, .long v14, .long v15] [.int ((x3 + (-1)) - 1), .ref b13] [.long q16.1, .int ((x3 + (-1)) - 1), .ref b13] zkd_11 (zgR_s eb13).1 (C_Mo_reckon n E S a0 x5 v14 v15 M q16.1 q16.2 eq16) d_Mo_reckonAll_261 tw_1469 tw_1466 tw_1468 ts_44 tw_13 dd_Mo_reckon ⟨Nat.le_of_ble_eq_true rfl, Nat.le_of_ble_eq_true rfl, Nat.le_of_ble_eq_true rfl, Nat.le_of_ble_eq_true rfl⟩ (Nat.le_of_ble_eq_true rfl) rfl rfl rfl rfl ?_
      obtain ⟨m17, em17, h⟩ := zbind h
      refine zo_last 265 d_Mo_reckonAll_264 em17 rfl ?_
      refine zi_aload_n 3 d_Mo_reckonAll_265 rfl ?_
      refine zi_aload_n 3 d_Mo_reckonAll_266 rfl ?_
      obtain ⟨v18, ev18, h⟩ := zbind h
      refine zo_getI 270 zkd_11 38 d_Mo_reckonAll_267 ev18 rfl tw_1269 rfl ?_
      refine zi_if_ne (tgt := 293) d_Mo_reckonAll_270 rfl (fun c19 => ?_) (fun c19 => ?_)
      · rw [if_neg c19] at h
        refine zi_lo [(0, .ref a0), (2, .int x2), (3, .int (x3 + (-1))), (4, .int (x4 + 1))] [3, 4, 0, 1] rfl ?_
        exact K_Mo_reckonAll_b293 n E S r10 a0 x2 (x3 + (-1)) (x4 + 1) a0 m17 M' hr10 h
      · rw [if_pos c19] at h
        refine zi_aload_n 3 d_Mo_reckonAll_273 rfl ?_
        refine zo_getR 277 zkd_11 37 d_Mo_reckonAll_274 eb13 rfl tw_1268 rfl ?_
        refine zi_iload_n 0 d_Mo_reckonAll_277 rfl ?_
        refine zi_iconst 1 d_Mo_reckonAll_278 rfl ?_
        refine zi_isub d_Mo_reckonAll_279 ?_
        obtain ⟨v20, ev20, h⟩ := zbind h
        refine zo_lald 281 d_Mo_reckonAll_280 ev20 rfl ?_
        refine zi_ldc2 d_Mo_reckonAll_281 tw_1470 ?_
        refine zi_ldc2 d_Mo_reckonAll_284 tw_1471 ?_
        obtain ⟨q21, eq21, h⟩ := zbind h
        refine zo_stat (k' := 0) (n' := 0) 290 [.long v20, .long (-1000000000), .long 1000000000] [.ref a0] [.int (bI q21.1), .ref a0] (C_Mo_in n E S v20 (-1000000000) 1000000000 m17 q21.1 q21.2 eq21) d_Mo_reckonAll_287 tw_1421 tw_1419 tw_1420 tw_13 dd_Mo_in ⟨Nat.le_of_ble_eq_true rfl, Nat.le_of_ble_eq_true rfl, Nat.le_of_ble_eq_true rfl, Nat.le_of_ble_eq_true rfl⟩ (Nat.le_of_ble_eq_true rfl) rfl rfl rfl rfl ?_
        refine zo_ifneB d_Mo_reckonAll_290 rfl 293 rfl (fun c22 => ?_) (fun c22 => ?_)
        · rw [if_pos c22] at h
          refine zi_iconst 0 d_Mo_reckonAll_297 rfl ?_
          refine zi_lo [(0, .ref a0), (2, .int x2), (3, .int (x3 + (-1))), (4, .int (x4 + 1))] [3, 4, 0, 1] rfl ?_
          exact K_Mo_reckonAll_b298 n E S r10 a0 x2 (x3 + (-1)) (x4 + 1) 0 a0 q21.2 M' hr10 h
        · rw [if_neg c22] at h
          refine zi_lo [(0, .ref a0), (2, .int x2), (3, .int (x3 + (-1))), (4, .int (x4 + 1))] [3, 4, 0, 1] rfl ?_
          exact K_Mo_reckonAll_b293 n E S r10 a0 x2 (x3 + (-1)) (x4 + 1) a0 q21.2 M' hr10 h
  · rw [if_neg c4] at h
    refine zi_aload_n 2 d_Mo_reckonAll_107 rfl ?_
    obtain ⟨b23, eb23, h⟩ := zbind h
    refine zo_getR 111 zkd_11 37 d_Mo_reckonAll_108 eb23 rfl tw_1268 rfl ?_
    refine zi_iload_n 4 d_Mo_reckonAll_111 rfl ?_
    refine zi_iload 5 d_Mo_reckonAll_112 rfl ?_
    refine zi_if_ne (tgt := 123) d_Mo_reckonAll_114 rfl (fun c24 => ?_) (fun c24 => ?_)
    · rw [if_neg c24] at h
      refine zi_aload_n 2 d_Mo_reckonAll_123 rfl ?_
      obtain ⟨v25, ev25, h⟩ := zbind h
      refine zo_getI 127 zkd_11 20 d_Mo_reckonAll_124 ev25 rfl tw_1251 rfl ?_
      refine zi_if_ne (tgt := 140) d_Mo_reckonAll_127 rfl (fun c26 => ?_) (fun c26 => ?_)
      · rw [if_neg c26] at h
        refine zi_iload 5 d_Mo_reckonAll_140 rfl ?_
        refine zi_iconst 5 d_Mo_reckonAll_142 rfl ?_
        refine zi_icmp_ge (tgt := 156) d_Mo_reckonAll_143 rfl (fun c29 => ?_) (fun c29 => ?_)
        · rw [if_pos c29] at h
          refine zi_iload 5 d_Mo_reckonAll_156 rfl ?_
          refine zi_iconst 5 d_Mo_reckonAll_158 rfl ?_
          refine zi_icmp_ne (tgt := 176) d_Mo_reckonAll_159 rfl (fun c30 => ?_) (fun c30 => ?_)
          · rw [if_neg c30] at h
            refine zi_iload 5 d_Mo_reckonAll_176 rfl ?_
            refine zi_bipush 6 d_Mo_reckonAll_178 rfl ?_
            refine zi_icmp_le (tgt := 194) d_Mo_reckonAll_180 rfl (fun c33 => ?_) (fun c33 => ?_)
            · rw [if_pos c33] at h
              refine zi_aload_n 2 d_Mo_reckonAll_194 rfl ?_
              refine zi_iload 1 d_Mo_reckonAll_195 rfl ?_
              obtain ⟨q34, eq34, h⟩ := zbind h
              refine zo_virt (k' := 0) (n' := 0) 200 [.int s0] [.int x3, .ref b23] [.int (bI q34.1), .int x3, .ref b23] zkd_11 (zgR_s eb23).1 (C_Mo_isBucket n E S a0 s0 M q34.1 q34.2 eq34) d_Mo_reckonAll_197 tw_1465 tw_1462 tw_1464 ts_43 tw_13 dd_Mo_isBucket ⟨Nat.le_of_ble_eq_true rfl, Nat.le_of_ble_eq_true rfl, Nat.le_of_ble_eq_true rfl, Nat.le_of_ble_eq_true rfl⟩ (Nat.le_of_ble_eq_true rfl) rfl rfl rfl rfl ?_
              refine zo_ifeqB d_Mo_reckonAll_200 rfl 203 rfl (fun c35 => ?_) (fun c35 => ?_)
              · rw [if_neg c35] at h
                refine zi_ldc2 d_Mo_reckonAll_217 tw_1449 ?_
                refine zi_lo [(0, .ref a0), (2, .int x2), (3, .int x3), (4, .int (x4 + 1))] [2, 3, 4, 0] rfl ?_
                exact K_Mo_reckonAll_b220 n E S r10 a0 x2 x3 (x4 + 1) (-1) x3 b23 q34.2 M' hr10 h
              · rw [if_pos c35] at h
                refine zi_aload_n 2 d_Mo_reckonAll_203 rfl ?_
                obtain ⟨b36, eb36, h⟩ := zbind h
                refine zo_getR 207 zkd_11 3 d_Mo_reckonAll_204 eb36 rfl tw_1234 rfl ?_
                refine zi_bipush 48 d_Mo_reckonAll_207 rfl ?_
                refine zi_iload 1 d_Mo_reckonAll_209 rfl ?_
                refine zi_iadd d_Mo_reckonAll_211 ?_
                obtain ⟨v37, ev37, h⟩ := zbind h
                refine zo_iald 213 d_Mo_reckonAll_212 ev37 rfl ?_
                refine zi_i2l d_Mo_reckonAll_213 ?_
                refine zi_goto (tgt := 220) d_Mo_reckonAll_214 rfl ?_
                refine zi_lo [(0, .ref a0), (2, .int x2), (3, .int x3), (4, .int (x4 + 1))] [2, 3, 4, 0] rfl ?_
                exact K_Mo_reckonAll_b220 n E S r10 a0 x2 x3 (x4 + 1) v37.toInt64 x3 b23 q34.2 M' hr10 h
            · rw [if_neg c33] at h
              refine zi_aload_n 2 d_Mo_reckonAll_183 rfl ?_
              obtain ⟨b38, eb38, h⟩ := zbind h
              refine zo_getR 187 zkd_11 41 d_Mo_reckonAll_184 eb38 rfl tw_1272 rfl ?_
              refine zi_iload 1 d_Mo_reckonAll_187 rfl ?_
              obtain ⟨v39, ev39, h⟩ := zbind h
              refine zo_iald 190 d_Mo_reckonAll_189 ev39 rfl ?_
              refine zi_i2l d_Mo_reckonAll_190 ?_
              refine zi_goto (tgt := 220) d_Mo_reckonAll_191 rfl ?_
              refine zi_lo [(0, .ref a0), (2, .int x2), (3, .int x3), (4, .int (x4 + 1))] [2, 3, 4, 0] rfl ?_
              exact K_Mo_reckonAll_b220 n E S r10 a0 x2 x3 (x4 + 1) v39.toInt64 x3 b23 M M' hr10 h
          · rw [if_pos c30] at h
            refine zi_aload_n 2 d_Mo_reckonAll_162 rfl ?_
            obtain ⟨b31, eb31, h⟩ := zbind h
            refine zo_getR 166 zkd_11 3 d_Mo_reckonAll_163 eb31 rfl tw_1234 rfl ?_
            refine zi_bipush 8 d_Mo_reckonAll_166 rfl ?_
            refine zi_iload 1 d_Mo_reckonAll_168 rfl ?_
            refine zi_iadd d_Mo_reckonAll_170 ?_
            obtain ⟨v32, ev32, h⟩ := zbind h
            refine zo_iald 172 d_Mo_reckonAll_171 ev32 rfl ?_
            refine zi_i2l d_Mo_reckonAll_172 ?_
            refine zi_goto (tgt := 220) d_Mo_reckonAll_173 rfl ?_
            refine zi_lo [(0, .ref a0), (2, .int x2), (3, .int x3), (4, .int (x4 + 1))] [2, 3, 4, 0] rfl ?_
            exact K_Mo_reckonAll_b220 n E S r10 a0 x2 x3 (x4 + 1) v32.toInt64 x3 b23 M M' hr10 h
        · rw [if_neg c29] at h
          refine zi_aload_n 2 d_Mo_reckonAll_146 rfl ?_
          obtain ⟨b40, eb40, h⟩ := zbind h
          refine zo_getR 150 zkd_11 36 d_Mo_reckonAll_147 eb40 rfl tw_1267 rfl ?_
          refine zi_iload 5 d_Mo_reckonAll_150 rfl ?_
          obtain ⟨v41, ev41, h⟩ := zbind h
          refine zo_lald 153 d_Mo_reckonAll_152 ev41 rfl ?_
          refine zi_goto (tgt := 220) d_Mo_reckonAll_153 rfl ?_
          refine zi_lo [(0, .ref a0), (2, .int x2), (3, .int x3), (4, .int (x4 + 1))] [2, 3, 4, 0] rfl ?_
          exact K_Mo_reckonAll_b220 n E S r10 a0 x2 x3 (x4 + 1) v41 x3 b23 M M' hr10 h
      · rw [if_pos c26] at h
        refine zi_aload_n 2 d_Mo_reckonAll_130 rfl ?_
        obtain ⟨b27, eb27, h⟩ := zbind h
        refine zo_getR 134 zkd_11 35 d_Mo_reckonAll_131 eb27 rfl tw_1266 rfl ?_
        refine zi_iload 5 d_Mo_reckonAll_134 rfl ?_
        obtain ⟨v28, ev28, h⟩ := zbind h
        refine zo_lald 137 d_Mo_reckonAll_136 ev28 rfl ?_
        refine zi_goto (tgt := 220) d_Mo_reckonAll_137 rfl ?_
        refine zi_lo [(0, .ref a0), (2, .int x2), (3, .int x3), (4, .int (x4 + 1))] [2, 3, 4, 0] rfl ?_
        exact K_Mo_reckonAll_b220 n E S r10 a0 x2 x3 (x4 + 1) v28 x3 b23 M M' hr10 h
    · rw [if_pos c24] at h
      refine zi_iload 1 d_Mo_reckonAll_117 rfl ?_
      refine zi_i2l d_Mo_reckonAll_119 ?_
      refine zi_goto (tgt := 220) d_Mo_reckonAll_120 rfl ?_
      refine zi_lo [(0, .ref a0), (2, .int x2), (3, .int x3), (4, .int (x4 + 1))] [2, 3, 4, 0] rfl ?_
      exact K_Mo_reckonAll_b220 n E S r10 a0 x2 x3 (x4 + 1) s0.toInt64 x3 b23 M M' hr10 h
theorem K_Mo_reckonAll_b57 (n : Nat) (E : zE) (S : zS) (r10 : Nat × Int32 × Int32 × Int32 × zH → Option (zH)) (a0 : Nat) (x2 : Int32) (x3 : Int32) (x4 : Int32) (s0 : Int32) (M : zH) (M' : zH) (hr10 : ∀ (a0 : Nat) (x2 : Int32) (x3 : Int32) (x4 : Int32) (M : zH), r10 (a0, x2, x3, x4, M) = some M' → zG E Y_Mo_reckonAll (none, S, M') 10 [(0, .ref a0), (2, .int x2), (3, .int x3), (4, .int x4)] [] S M 0 0) (h : F_Mo_reckonAll_b57 n E S r10 a0 x2 x3 x4 s0 M = some M') : zG E Y_Mo_reckonAll (none, S, M') 57 [(0, .ref a0), (2, .int x2), (3, .int x3), (4, .int x4)] [.int s0] S M 0 0 := by
  unfold F_Mo_reckonAll_b57 at h
  refine zi_istore [(5, .int s0), (0, .ref a0), (2, .int x2), (3, .int x3), (4, .int x4)] d_Mo_reckonAll_57 (by decide) rfl ?_
  refine zi_aload_n 1 d_Mo_reckonAll_59 rfl ?_
  obtain ⟨v42, ev42, h⟩ := zbind h
  refine zo_getI 63 zkd_11 20 d_Mo_reckonAll_60 ev42 rfl tw_1251 rfl ?_
  refine zi_if_eq (tgt := 76) d_Mo_reckonAll_63 rfl (fun c43 => ?_) (fun c43 => ?_)
  · rw [if_pos c43] at h
    refine zi_aload_n 1 d_Mo_reckonAll_76 rfl ?_
    obtain ⟨b44, eb44, h⟩ := zbind h
    refine zo_getR 80 zkd_11 3 d_Mo_reckonAll_77 eb44 rfl tw_1234 rfl ?_
    refine zi_aload_n 1 d_Mo_reckonAll_80 rfl ?_
    obtain ⟨v45, ev45, h⟩ := zbind h
    refine zo_getI 84 zkd_11 34 d_Mo_reckonAll_81 ev45 rfl tw_1265 rfl ?_
    refine zi_bipush 98 d_Mo_reckonAll_84 rfl ?_
    refine zi_iadd d_Mo_reckonAll_86 ?_
    refine zi_iconst 2 d_Mo_reckonAll_87 rfl ?_
    refine zi_iload 4 d_Mo_reckonAll_88 rfl ?_
    refine zi_imul d_Mo_reckonAll_90 ?_
    refine zi_iadd d_Mo_reckonAll_91 ?_
    refine zi_iconst 1 d_Mo_reckonAll_92 rfl ?_
    refine zi_iadd d_Mo_reckonAll_93 ?_
    obtain ⟨v46, ev46, h⟩ := zbind h
    refine zo_iald 95 d_Mo_reckonAll_94 ev46 rfl ?_
    refine zi_lo [(0, .ref a0), (2, .int x2), (3, .int x3), (4, .int x4), (5, .int s0)] [1, 2, 3, 4, 0] rfl ?_
    exact K_Mo_reckonAll_b95 n E S r10 a0 x2 x3 x4 s0 v46 M M' hr10 h
  · rw [if_neg c43] at h
    refine zi_aload_n 1 d_Mo_reckonAll_66 rfl ?_
    obtain ⟨b47, eb47, h⟩ := zbind h
    refine zo_getR 70 zkd_11 25 d_Mo_reckonAll_67 eb47 rfl tw_1256 rfl ?_
    refine zi_iload 4 d_Mo_reckonAll_70 rfl ?_
    obtain ⟨v48, ev48, h⟩ := zbind h
    refine zo_iald 73 d_Mo_reckonAll_72 ev48 rfl ?_
    refine zi_goto (tgt := 95) d_Mo_reckonAll_73 rfl ?_
    refine zi_lo [(0, .ref a0), (2, .int x2), (3, .int x3), (4, .int x4), (5, .int s0)] [1, 2, 3, 4, 0] rfl ?_
    exact K_Mo_reckonAll_b95 n E S r10 a0 x2 x3 x4 s0 v48 M M' hr10 h
theorem K_Mo_reckonAll_b384 (n : Nat) (E : zE) (S : zS) (t0 : Int64) (u1 : Nat) (M : zH) (M' : zH)  (h : F_Mo_reckonAll_b384 n E S t0 u1 M = some M') : zG E Y_Mo_reckonAll (none, S, M') 384 [] [.long t0, .ref u1] S M 0 0 := by
  unfold F_Mo_reckonAll_b384 at h
  obtain ⟨m49, em49, h⟩ := zbind h
  refine zo_putJ 387 zkd_11 39 d_Mo_reckonAll_384 em49 rfl rfl rfl tw_1270 rfl ?_
  cases h
  exact zo_ret d_Mo_reckonAll_387 (Nat.le_of_ble_eq_true rfl) (Nat.le_of_ble_eq_true rfl) rfl
theorem K_Mo_reckonAll_b369 (n : Nat) (E : zE) (S : zS) (a0 : Nat) (x3 : Int32) (M : zH) (M' : zH)  (h : F_Mo_reckonAll_b369 n E S a0 x3 M = some M') : zG E Y_Mo_reckonAll (none, S, M') 369 [(0, .ref a0), (3, .int x3)] [] S M 0 0 := by
  unfold F_Mo_reckonAll_b369 at h
  refine zi_aload_n 0 d_Mo_reckonAll_369 rfl ?_
  refine zi_iload_n 1 d_Mo_reckonAll_370 rfl ?_
  refine zi_if_le (tgt := 383) d_Mo_reckonAll_371 rfl (fun c50 => ?_) (fun c50 => ?_)
  · rw [if_pos c50] at h
    refine zi_lconst 0 d_Mo_reckonAll_383 rfl ?_
    refine zi_lo [] [] rfl ?_
    exact K_Mo_reckonAll_b384 n E S 0 a0 M M'  h
  · rw [if_neg c50] at h
    refine zi_aload_n 0 d_Mo_reckonAll_374 rfl ?_
    obtain ⟨b51, eb51, h⟩ := zbind h
    refine zo_getR 378 zkd_11 37 d_Mo_reckonAll_375 eb51 rfl tw_1268 rfl ?_
    refine zi_iconst 0 d_Mo_reckonAll_378 rfl ?_
    obtain ⟨v52, ev52, h⟩ := zbind h
    refine zo_lald 380 d_Mo_reckonAll_379 ev52 rfl ?_
    refine zi_goto (tgt := 384) d_Mo_reckonAll_380 rfl ?_
    refine zi_lo [] [] rfl ?_
    exact K_Mo_reckonAll_b384 n E S v52 a0 M M'  h
theorem K_Mo_reckonAll_L10 (n : Nat) (E : zE) (S : zS) (r10 : Nat × Int32 × Int32 × Int32 × zH → Option (zH)) (a0 : Nat) (x2 : Int32) (x3 : Int32) (x4 : Int32) (M : zH) (M' : zH) (hr10 : ∀ (a0 : Nat) (x2 : Int32) (x3 : Int32) (x4 : Int32) (M : zH), r10 (a0, x2, x3, x4, M) = some M' → zG E Y_Mo_reckonAll (none, S, M') 10 [(0, .ref a0), (2, .int x2), (3, .int x3), (4, .int x4)] [] S M 0 0) (h : F_Mo_reckonAll_L10 n E S r10 a0 x2 x3 x4 M = some M') : zG E Y_Mo_reckonAll (none, S, M') 10 [(0, .ref a0), (2, .int x2), (3, .int x3), (4, .int x4)] [] S M 0 0 := by
  unfold F_Mo_reckonAll_L10 at h
  refine zi_iload 3 d_Mo_reckonAll_10 rfl ?_
  refine zi_iload_n 1 d_Mo_reckonAll_12 rfl ?_
  refine zi_icmp_ge (tgt := 369) d_Mo_reckonAll_13 rfl (fun c53 => ?_) (fun c53 => ?_)
  · rw [if_pos c53] at h
    refine zi_lo [(0, .ref a0), (3, .int x3)] [0, 2] rfl ?_
    exact K_Mo_reckonAll_b369 n E S a0 x3 M M'  h
  · rw [if_neg c53] at h
    refine zi_aload_n 0 d_Mo_reckonAll_16 rfl ?_
    obtain ⟨v54, ev54, h⟩ := zbind h
    refine zo_getI 20 zkd_11 38 d_Mo_reckonAll_17 ev54 rfl tw_1269 rfl ?_
    refine zi_if_ne (tgt := 369) d_Mo_reckonAll_20 rfl (fun c55 => ?_) (fun c55 => ?_)
    · rw [if_neg c55] at h
      refine zi_lo [(0, .ref a0), (3, .int x3)] [0, 2] rfl ?_
      exact K_Mo_reckonAll_b369 n E S a0 x3 M M'  h
    · rw [if_pos c55] at h
      refine zi_aload_n 0 d_Mo_reckonAll_23 rfl ?_
      obtain ⟨v56, ev56, h⟩ := zbind h
      refine zo_getI 27 zkd_11 20 d_Mo_reckonAll_24 ev56 rfl tw_1251 rfl ?_
      refine zi_if_eq (tgt := 40) d_Mo_reckonAll_27 rfl (fun c57 => ?_) (fun c57 => ?_)
      · rw [if_pos c57] at h
        refine zi_aload_n 0 d_Mo_reckonAll_40 rfl ?_
        obtain ⟨b58, eb58, h⟩ := zbind h
        refine zo_getR 44 zkd_11 3 d_Mo_reckonAll_41 eb58 rfl tw_1234 rfl ?_
        refine zi_aload_n 0 d_Mo_reckonAll_44 rfl ?_
        obtain ⟨v59, ev59, h⟩ := zbind h
        refine zo_getI 48 zkd_11 34 d_Mo_reckonAll_45 ev59 rfl tw_1265 rfl ?_
        refine zi_bipush 98 d_Mo_reckonAll_48 rfl ?_
        refine zi_iadd d_Mo_reckonAll_50 ?_
        refine zi_iconst 2 d_Mo_reckonAll_51 rfl ?_
        refine zi_iload 3 d_Mo_reckonAll_52 rfl ?_
        refine zi_imul d_Mo_reckonAll_54 ?_
        refine zi_iadd d_Mo_reckonAll_55 ?_
        obtain ⟨v60, ev60, h⟩ := zbind h
        refine zo_iald 57 d_Mo_reckonAll_56 ev60 rfl ?_
        refine zi_lo [(0, .ref a0), (2, .int x2), (3, .int x3), (4, .int x4)] [0, 1, 2, 3] rfl ?_
        exact K_Mo_reckonAll_b57 n E S r10 a0 x2 x3 x4 v60 M M' hr10 h
      · rw [if_neg c57] at h
        refine zi_aload_n 0 d_Mo_reckonAll_30 rfl ?_
        obtain ⟨b61, eb61, h⟩ := zbind h
        refine zo_getR 34 zkd_11 24 d_Mo_reckonAll_31 eb61 rfl tw_1255 rfl ?_
        refine zi_iload 3 d_Mo_reckonAll_34 rfl ?_
        obtain ⟨v62, ev62, h⟩ := zbind h
        refine zo_iald 37 d_Mo_reckonAll_36 ev62 rfl ?_
        refine zi_goto (tgt := 57) d_Mo_reckonAll_37 rfl ?_
        refine zi_lo [(0, .ref a0), (2, .int x2), (3, .int x3), (4, .int x4)] [0, 1, 2, 3] rfl ?_
        exact K_Mo_reckonAll_b57 n E S r10 a0 x2 x3 x4 v62 M M' hr10 h
theorem K_Mo_reckonAll_b10 (n : Nat) (E : zE) (S : zS) (a0 : Nat) (x2 : Int32) (x3 : Int32) (x4 : Int32) (M : zH) (M' : zH)  (h : F_Mo_reckonAll_b10 n E S (a0, x2, x3, x4, M) = some M') : zG E Y_Mo_reckonAll (none, S, M') 10 [(0, .ref a0), (2, .int x2), (3, .int x3), (4, .int x4)] [] S M 0 0 := by
  have key : ∀ (k : Nat) (a0 : Nat) (x2 : Int32) (x3 : Int32) (x4 : Int32) (M : zH), zfix (fun r10 s => F_Mo_reckonAll_L10 n E S r10 s.1 s.2.1 s.2.2.1 s.2.2.2.1 s.2.2.2.2) k (a0, x2, x3, x4, M) = some M' → zG E Y_Mo_reckonAll (none, S, M') 10 [(0, .ref a0), (2, .int x2), (3, .int x3), (4, .int x4)] [] S M 0 0 := by
    intro k
    induction k with
    | zero => intro a0 x2 x3 x4 M h; cases h
    | succ k ih => intro a0 x2 x3 x4 M h; exact K_Mo_reckonAll_L10 n E S _ a0 x2 x3 x4 M M'  (fun a0 x2 x3 x4 M h => ih a0 x2 x3 x4 M h) h
  exact key n a0 x2 x3 x4 M h
theorem K_Mo_reckonAll (n : Nat) (E : zE) (S : zS) (a0 : Nat) (x1 : Int32) (x2 : Int32) (M : zH) (M' : zH)  (h : F_Mo_reckonAll n E S a0 x1 x2 M = some M') : zG E Y_Mo_reckonAll (none, S, M') 0 [(0, .ref a0), (1, .int x1), (2, .int x2)] [] S M 0 0 := by
  unfold F_Mo_reckonAll at h
  refine zi_aload_n 0 d_Mo_reckonAll_0 rfl ?_
  refine zi_iconst 0 d_Mo_reckonAll_1 rfl ?_
  obtain ⟨m63, em63, h⟩ := zbind h
  refine zo_putZ 5 zkd_11 38 d_Mo_reckonAll_2 em63 rfl rfl rfl tw_1269 rfl ?_
  refine zi_iconst 0 d_Mo_reckonAll_5 rfl ?_
  refine zi_istore_n [(3, .int 0), (0, .ref a0), (1, .int x1), (2, .int x2)] d_Mo_reckonAll_6 (by decide) rfl ?_
  refine zi_iload_n 2 d_Mo_reckonAll_7 rfl ?_
  refine zi_istore [(4, .int x1), (3, .int 0), (0, .ref a0), (1, .int x1), (2, .int x2)] d_Mo_reckonAll_8 (by decide) rfl ?_
  refine zi_lo [(0, .ref a0), (2, .int x2), (3, .int 0), (4, .int x1)] [2, 4, 1, 0] rfl ?_
  exact K_Mo_reckonAll_b10 n E S a0 x2 0 x1 m63 M'  h
theorem C_Mo_reckonAll (n : Nat) (E : zE) (S : zS) (a0 : Nat) (x1 : Int32) (x2 : Int32) (M : zH) (M' : zH) (h : F_Mo_reckonAll n E S a0 x1 x2 M = some M') : zC E Y_Mo_reckonAll [.ref a0, .int x1, .int x2] S M (none, S, M') :=
  zC.of (Or.inl (show plainName "NightColanderModel" = true by decide)) (Nat.le_of_ble_eq_true rfl) (trivial) (K_Mo_reckonAll n E S a0 x1 x2 M M' h)
theorem d_Mo_isSo_0 : decode (yB Y_Mo_isSo) 0 = .ok (.aload_n 0, 1) := by decide +kernel
theorem d_Mo_isSo_1 : decode (yB Y_Mo_isSo) 1 = .ok (.getfield 13, 3) := by decide +kernel
theorem d_Mo_isSo_4 : decode (yB Y_Mo_isSo) 4 = .ok (.iload_n 1, 1) := by decide +kernel
theorem d_Mo_isSo_5 : decode (yB Y_Mo_isSo) 5 = .ok (.iconst 5, 1) := by decide +kernel
theorem d_Mo_isSo_6 : decode (yB Y_Mo_isSo) 6 = .ok (.iadd, 1) := by decide +kernel
theorem d_Mo_isSo_7 : decode (yB Y_Mo_isSo) 7 = .ok (.iaload, 1) := by decide +kernel
theorem d_Mo_isSo_8 : decode (yB Y_Mo_isSo) 8 = .ok (.aload_n 0, 1) := by decide +kernel
theorem d_Mo_isSo_9 : decode (yB Y_Mo_isSo) 9 = .ok (.getfield 13, 3) := by decide +kernel
theorem d_Mo_isSo_12 : decode (yB Y_Mo_isSo) 12 = .ok (.iload_n 1, 1) := by decide +kernel
theorem d_Mo_isSo_13 : decode (yB Y_Mo_isSo) 13 = .ok (.bipush 6, 2) := by decide +kernel
theorem d_Mo_isSo_15 : decode (yB Y_Mo_isSo) 15 = .ok (.iadd, 1) := by decide +kernel
theorem d_Mo_isSo_16 : decode (yB Y_Mo_isSo) 16 = .ok (.iaload, 1) := by decide +kernel
theorem d_Mo_isSo_17 : decode (yB Y_Mo_isSo) 17 = .ok (.if_icmp .ge 42, 3) := by decide +kernel
theorem d_Mo_isSo_20 : decode (yB Y_Mo_isSo) 20 = .ok (.aload_n 0, 1) := by decide +kernel
theorem d_Mo_isSo_21 : decode (yB Y_Mo_isSo) 21 = .ok (.aload_n 0, 1) := by decide +kernel
theorem d_Mo_isSo_22 : decode (yB Y_Mo_isSo) 22 = .ok (.getfield 13, 3) := by decide +kernel
theorem d_Mo_isSo_25 : decode (yB Y_Mo_isSo) 25 = .ok (.iload_n 1, 1) := by decide +kernel
theorem d_Mo_isSo_26 : decode (yB Y_Mo_isSo) 26 = .ok (.iconst 5, 1) := by decide +kernel
theorem d_Mo_isSo_27 : decode (yB Y_Mo_isSo) 27 = .ok (.iadd, 1) := by decide +kernel
theorem d_Mo_isSo_28 : decode (yB Y_Mo_isSo) 28 = .ok (.iaload, 1) := by decide +kernel
theorem d_Mo_isSo_29 : decode (yB Y_Mo_isSo) 29 = .ok (.aload_n 0, 1) := by decide +kernel
theorem d_Mo_isSo_30 : decode (yB Y_Mo_isSo) 30 = .ok (.getfield 13, 3) := by decide +kernel
theorem d_Mo_isSo_33 : decode (yB Y_Mo_isSo) 33 = .ok (.iload_n 1, 1) := by decide +kernel
theorem d_Mo_isSo_34 : decode (yB Y_Mo_isSo) 34 = .ok (.bipush 6, 2) := by decide +kernel
theorem d_Mo_isSo_36 : decode (yB Y_Mo_isSo) 36 = .ok (.iadd, 1) := by decide +kernel
theorem d_Mo_isSo_37 : decode (yB Y_Mo_isSo) 37 = .ok (.iaload, 1) := by decide +kernel
theorem d_Mo_isSo_38 : decode (yB Y_Mo_isSo) 38 = .ok (.invokevirtual 422, 3) := by decide +kernel
theorem d_Mo_isSo_41 : decode (yB Y_Mo_isSo) 41 = .ok (.aload_n 0, 1) := by decide +kernel
theorem d_Mo_isSo_42 : decode (yB Y_Mo_isSo) 42 = .ok (.getfield 405, 3) := by decide +kernel
theorem d_Mo_isSo_45 : decode (yB Y_Mo_isSo) 45 = .ok (.ifCond .ne 12, 3) := by decide +kernel
theorem d_Mo_isSo_48 : decode (yB Y_Mo_isSo) 48 = .ok (.aload_n 0, 1) := by decide +kernel
theorem d_Mo_isSo_49 : decode (yB Y_Mo_isSo) 49 = .ok (.getfield 419, 3) := by decide +kernel
theorem d_Mo_isSo_52 : decode (yB Y_Mo_isSo) 52 = .ok (.lconst 0, 1) := by decide +kernel
theorem d_Mo_isSo_53 : decode (yB Y_Mo_isSo) 53 = .ok (.lcmp, 1) := by decide +kernel
theorem d_Mo_isSo_54 : decode (yB Y_Mo_isSo) 54 = .ok (.ifCond .ne 5, 3) := by decide +kernel
theorem d_Mo_isSo_57 : decode (yB Y_Mo_isSo) 57 = .ok (.iconst 0, 1) := by decide +kernel
theorem d_Mo_isSo_58 : decode (yB Y_Mo_isSo) 58 = .ok (.ireturn, 1) := by decide +kernel
theorem d_Mo_isSo_59 : decode (yB Y_Mo_isSo) 59 = .ok (.aload_n 0, 1) := by decide +kernel
theorem d_Mo_isSo_60 : decode (yB Y_Mo_isSo) 60 = .ok (.getfield 13, 3) := by decide +kernel
theorem d_Mo_isSo_63 : decode (yB Y_Mo_isSo) 63 = .ok (.iload_n 1, 1) := by decide +kernel
theorem d_Mo_isSo_64 : decode (yB Y_Mo_isSo) 64 = .ok (.iaload, 1) := by decide +kernel
theorem d_Mo_isSo_65 : decode (yB Y_Mo_isSo) 65 = .ok (.iconst 3, 1) := by decide +kernel
theorem d_Mo_isSo_66 : decode (yB Y_Mo_isSo) 66 = .ok (.if_icmp .eq 44, 3) := by decide +kernel
theorem d_Mo_isSo_69 : decode (yB Y_Mo_isSo) 69 = .ok (.aload_n 0, 1) := by decide +kernel
theorem d_Mo_isSo_70 : decode (yB Y_Mo_isSo) 70 = .ok (.aload_n 0, 1) := by decide +kernel
theorem d_Mo_isSo_71 : decode (yB Y_Mo_isSo) 71 = .ok (.getfield 13, 3) := by decide +kernel
theorem d_Mo_isSo_74 : decode (yB Y_Mo_isSo) 74 = .ok (.iload_n 1, 1) := by decide +kernel
theorem d_Mo_isSo_75 : decode (yB Y_Mo_isSo) 75 = .ok (.iconst 3, 1) := by decide +kernel
theorem d_Mo_isSo_76 : decode (yB Y_Mo_isSo) 76 = .ok (.iadd, 1) := by decide +kernel
theorem d_Mo_isSo_77 : decode (yB Y_Mo_isSo) 77 = .ok (.iaload, 1) := by decide +kernel
theorem d_Mo_isSo_78 : decode (yB Y_Mo_isSo) 78 = .ok (.aload_n 0, 1) := by decide +kernel
theorem d_Mo_isSo_79 : decode (yB Y_Mo_isSo) 79 = .ok (.getfield 13, 3) := by decide +kernel
theorem d_Mo_isSo_82 : decode (yB Y_Mo_isSo) 82 = .ok (.iload_n 1, 1) := by decide +kernel
theorem d_Mo_isSo_83 : decode (yB Y_Mo_isSo) 83 = .ok (.iconst 4, 1) := by decide +kernel
theorem d_Mo_isSo_84 : decode (yB Y_Mo_isSo) 84 = .ok (.iadd, 1) := by decide +kernel
theorem d_Mo_isSo_85 : decode (yB Y_Mo_isSo) 85 = .ok (.iaload, 1) := by decide +kernel
theorem d_Mo_isSo_86 : decode (yB Y_Mo_isSo) 86 = .ok (.invokevirtual 422, 3) := by decide +kernel
theorem d_Mo_isSo_89 : decode (yB Y_Mo_isSo) 89 = .ok (.aload_n 0, 1) := by decide +kernel
theorem d_Mo_isSo_90 : decode (yB Y_Mo_isSo) 90 = .ok (.aload_n 0, 1) := by decide +kernel
theorem d_Mo_isSo_91 : decode (yB Y_Mo_isSo) 91 = .ok (.getfield 419, 3) := by decide +kernel
theorem d_Mo_isSo_94 : decode (yB Y_Mo_isSo) 94 = .ok (.putfield 425, 3) := by decide +kernel
theorem d_Mo_isSo_97 : decode (yB Y_Mo_isSo) 97 = .ok (.aload_n 0, 1) := by decide +kernel
theorem d_Mo_isSo_98 : decode (yB Y_Mo_isSo) 98 = .ok (.getfield 405, 3) := by decide +kernel
theorem d_Mo_isSo_101 : decode (yB Y_Mo_isSo) 101 = .ok (.ifCond .ne 7, 3) := by decide +kernel
theorem d_Mo_isSo_104 : decode (yB Y_Mo_isSo) 104 = .ok (.iconst 1, 1) := by decide +kernel
theorem d_Mo_isSo_105 : decode (yB Y_Mo_isSo) 105 = .ok (.goto 4, 3) := by decide +kernel
theorem d_Mo_isSo_108 : decode (yB Y_Mo_isSo) 108 = .ok (.iconst 0, 1) := by decide +kernel
theorem d_Mo_isSo_109 : decode (yB Y_Mo_isSo) 109 = .ok (.ireturn, 1) := by decide +kernel
theorem d_Mo_isSo_110 : decode (yB Y_Mo_isSo) 110 = .ok (.iconst 1, 1) := by decide +kernel
theorem d_Mo_isSo_111 : decode (yB Y_Mo_isSo) 111 = .ok (.ireturn, 1) := by decide +kernel
def F_Mo_isSo_b59 (n : Nat) (E : zE) (S : zS) (a0 : Nat) (x1 : Int32) (M : zH) : Option (Bool × zH) :=
  (zgR S a0 11 3).bind fun b1 =>
  (zldI S M b1 x1).bind fun v2 =>
  if v2 = 3 then
    some (true, M)
  else
    (zldI S M b1 (x1 + 3)).bind fun v4 =>
    (zldI S M b1 (x1 + 4)).bind fun v5 =>
    (F_Mo_reckonAll n E S a0 v4 v5 M).bind fun q6 =>
    (zgJ S q6 a0 11 39).bind fun v7 =>
    (zpJ S q6 a0 11 40 v7).bind fun m8 =>
    (zgI S m8 a0 11 38).bind fun v9 =>
    if v9 = 0 then
      some (true, m8)
    else
      some (false, m8)
def F_Mo_isSo (n : Nat) (E : zE) (S : zS) (a0 : Nat) (x1 : Int32) (M : zH) : Option (Bool × zH) :=
  (zgR S a0 11 3).bind fun b11 =>
  (zldI S M b11 (x1 + 5)).bind fun v12 =>
  (zldI S M b11 (x1 + 6)).bind fun v13 =>
  if v13 ≤ v12 then
    F_Mo_isSo_b59 n E S a0 x1 M
  else
    (zldI S M b11 (x1 + 5)).bind fun v15 =>
    (zldI S M b11 (x1 + 6)).bind fun v16 =>
    (F_Mo_reckonAll n E S a0 v15 v16 M).bind fun q17 =>
    (zgI S q17 a0 11 38).bind fun v18 =>
    if v18 = 0 then
      (zgJ S q17 a0 11 39).bind fun v20 =>
      if v20 = 0 then
        some (false, q17)
      else
        F_Mo_isSo_b59 n E S a0 x1 q17
    else
      some (false, q17)
theorem K_Mo_isSo_b59 (n : Nat) (E : zE) (S : zS) (a0 : Nat) (x1 : Int32) (M : zH) (r : Bool) (M' : zH)  (h : F_Mo_isSo_b59 n E S a0 x1 M = some (r, M')) : zG E Y_Mo_isSo (some (.int (bI r)), S, M') 59 [(0, .ref a0), (1, .int x1)] [] S M 0 0 := by
  unfold F_Mo_isSo_b59 at h
  refine zi_aload_n 0 d_Mo_isSo_59 rfl ?_
  obtain ⟨b1, eb1, h⟩ := zbind h
  refine zo_getR 63 zkd_11 3 d_Mo_isSo_60 eb1 rfl tw_1234 rfl ?_
  refine zi_iload_n 1 d_Mo_isSo_63 rfl ?_
  obtain ⟨v2, ev2, h⟩ := zbind h
  refine zo_iald 65 d_Mo_isSo_64 ev2 rfl ?_
  refine zi_iconst 3 d_Mo_isSo_65 rfl ?_
  refine zi_icmp_eq (tgt := 110) d_Mo_isSo_66 rfl (fun c3 => ?_) (fun c3 => ?_)
  · rw [if_pos c3] at h
    refine zi_iconst 1 d_Mo_isSo_110 rfl ?_
    cases h
    exact zo_retB d_Mo_isSo_111 (Nat.le_of_ble_eq_true rfl) (Nat.le_of_ble_eq_true rfl) rfl
  · rw [if_neg c3] at h
    refine zi_aload_n 0 d_Mo_isSo_69 rfl ?_
    refine zi_aload_n 0 d_Mo_isSo_70 rfl ?_
    refine zo_getR 74 zkd_11 3 d_Mo_isSo_71 eb1 rfl tw_1234 rfl ?_
    refine zi_iload_n 1 d_Mo_isSo_74 rfl ?_
    refine zi_iconst 3 d_Mo_isSo_75 rfl ?_
    refine zi_iadd d_Mo_isSo_76 ?_
    obtain ⟨v4, ev4, h⟩ := zbind h
    refine zo_iald 78 d_Mo_isSo_77 ev4 rfl ?_
    refine zi_aload_n 0 d_Mo_isSo_78 rfl ?_
    refine zo_getR 82 zkd_11 3 d_Mo_isSo_79 eb1 rfl tw_1234 rfl ?_
    refine zi_iload_n 1 d_Mo_isSo_82 rfl ?_
    refine zi_iconst 4 d_Mo_isSo_83 rfl ?_
    refine zi_iadd d_Mo_isSo_84 ?_
    obtain ⟨v5, ev5, h⟩ := zbind h
    refine zo_iald 86 d_Mo_isSo_85 ev5 rfl ?_
    obtain ⟨q6, eq6, h⟩ := zbind h
    refine zo_virt (k' := 0) (n' := 0) 89 [.int v4, .int v5] [] [] zkd_11 (zgR_s eb1).1 (C_Mo_reckonAll n E S a0 v4 v5 M q6 eq6) d_Mo_isSo_86 tw_1461 tw_1458 tw_1460 ts_42 tw_13 dd_Mo_reckonAll ⟨Nat.le_of_ble_eq_true rfl, Nat.le_of_ble_eq_true rfl, Nat.le_of_ble_eq_true rfl, Nat.le_of_ble_eq_true rfl⟩ (Nat.le_of_ble_eq_true rfl) rfl rfl rfl rfl ?_
    refine zi_aload_n 0 d_Mo_isSo_89 rfl ?_
    refine zi_aload_n 0 d_Mo_isSo_90 rfl ?_
    obtain ⟨v7, ev7, h⟩ := zbind h
    refine zo_getJ 94 zkd_11 39 d_Mo_isSo_91 ev7 rfl tw_1270 rfl ?_
    obtain ⟨m8, em8, h⟩ := zbind h
    refine zo_putJ 97 zkd_11 40 d_Mo_isSo_94 em8 rfl rfl rfl tw_1271 rfl ?_
    refine zi_aload_n 0 d_Mo_isSo_97 rfl ?_
    obtain ⟨v9, ev9, h⟩ := zbind h
    refine zo_getI 101 zkd_11 38 d_Mo_isSo_98 ev9 rfl tw_1269 rfl ?_
    refine zi_if_ne (tgt := 108) d_Mo_isSo_101 rfl (fun c10 => ?_) (fun c10 => ?_)
    · rw [if_neg c10] at h
      refine zi_iconst 0 d_Mo_isSo_108 rfl ?_
      cases h
      exact zo_retB d_Mo_isSo_109 (Nat.le_of_ble_eq_true rfl) (Nat.le_of_ble_eq_true rfl) rfl
    · rw [if_pos c10] at h
      refine zi_iconst 1 d_Mo_isSo_104 rfl ?_
      refine zi_goto (tgt := 109) d_Mo_isSo_105 rfl ?_
      cases h
      exact zo_retB d_Mo_isSo_109 (Nat.le_of_ble_eq_true rfl) (Nat.le_of_ble_eq_true rfl) rfl
theorem K_Mo_isSo (n : Nat) (E : zE) (S : zS) (a0 : Nat) (x1 : Int32) (M : zH) (r : Bool) (M' : zH)  (h : F_Mo_isSo n E S a0 x1 M = some (r, M')) : zG E Y_Mo_isSo (some (.int (bI r)), S, M') 0 [(0, .ref a0), (1, .int x1)] [] S M 0 0 := by
  unfold F_Mo_isSo at h
  refine zi_aload_n 0 d_Mo_isSo_0 rfl ?_
  obtain ⟨b11, eb11, h⟩ := zbind h
  refine zo_getR 4 zkd_11 3 d_Mo_isSo_1 eb11 rfl tw_1234 rfl ?_
  refine zi_iload_n 1 d_Mo_isSo_4 rfl ?_
  refine zi_iconst 5 d_Mo_isSo_5 rfl ?_
  refine zi_iadd d_Mo_isSo_6 ?_
  obtain ⟨v12, ev12, h⟩ := zbind h
  refine zo_iald 8 d_Mo_isSo_7 ev12 rfl ?_
  refine zi_aload_n 0 d_Mo_isSo_8 rfl ?_
  refine zo_getR 12 zkd_11 3 d_Mo_isSo_9 eb11 rfl tw_1234 rfl ?_
  refine zi_iload_n 1 d_Mo_isSo_12 rfl ?_
  refine zi_bipush 6 d_Mo_isSo_13 rfl ?_
  refine zi_iadd d_Mo_isSo_15 ?_
  obtain ⟨v13, ev13, h⟩ := zbind h
  refine zo_iald 17 d_Mo_isSo_16 ev13 rfl ?_
  refine zi_icmp_ge (tgt := 59) d_Mo_isSo_17 rfl (fun c14 => ?_) (fun c14 => ?_)
  · rw [if_pos c14] at h
    refine zi_lo [(0, .ref a0), (1, .int x1)] [0, 1] rfl ?_
    exact K_Mo_isSo_b59 n E S a0 x1 M r M'  h
  · rw [if_neg c14] at h
    refine zi_aload_n 0 d_Mo_isSo_20 rfl ?_
    refine zi_aload_n 0 d_Mo_isSo_21 rfl ?_
    refine zo_getR 25 zkd_11 3 d_Mo_isSo_22 eb11 rfl tw_1234 rfl ?_
    refine zi_iload_n 1 d_Mo_isSo_25 rfl ?_
    refine zi_iconst 5 d_Mo_isSo_26 rfl ?_
    refine zi_iadd d_Mo_isSo_27 ?_
    obtain ⟨v15, ev15, h⟩ := zbind h
    refine zo_iald 29 d_Mo_isSo_28 ev15 rfl ?_
    refine zi_aload_n 0 d_Mo_isSo_29 rfl ?_
    refine zo_getR 33 zkd_11 3 d_Mo_isSo_30 eb11 rfl tw_1234 rfl ?_
    refine zi_iload_n 1 d_Mo_isSo_33 rfl ?_
    refine zi_bipush 6 d_Mo_isSo_34 rfl ?_
    refine zi_iadd d_Mo_isSo_36 ?_
    obtain ⟨v16, ev16, h⟩ := zbind h
    refine zo_iald 38 d_Mo_isSo_37 ev16 rfl ?_
    obtain ⟨q17, eq17, h⟩ := zbind h
    refine zo_virt (k' := 0) (n' := 0) 41 [.int v15, .int v16] [] [] zkd_11 (zgR_s eb11).1 (C_Mo_reckonAll n E S a0 v15 v16 M q17 eq17) d_Mo_isSo_38 tw_1461 tw_1458 tw_1460 ts_42 tw_13 dd_Mo_reckonAll ⟨Nat.le_of_ble_eq_true rfl, Nat.le_of_ble_eq_true rfl, Nat.le_of_ble_eq_true rfl, Nat.le_of_ble_eq_true rfl⟩ (Nat.le_of_ble_eq_true rfl) rfl rfl rfl rfl ?_
    refine zi_aload_n 0 d_Mo_isSo_41 rfl ?_
    obtain ⟨v18, ev18, h⟩ := zbind h
    refine zo_getI 45 zkd_11 38 d_Mo_isSo_42 ev18 rfl tw_1269 rfl ?_
    refine zi_if_ne (tgt := 57) d_Mo_isSo_45 rfl (fun c19 => ?_) (fun c19 => ?_)
    · rw [if_neg c19] at h
      refine zi_iconst 0 d_Mo_isSo_57 rfl ?_
      cases h
      exact zo_retB d_Mo_isSo_58 (Nat.le_of_ble_eq_true rfl) (Nat.le_of_ble_eq_true rfl) rfl
    · rw [if_pos c19] at h
      refine zi_aload_n 0 d_Mo_isSo_48 rfl ?_
      obtain ⟨v20, ev20, h⟩ := zbind h
      refine zo_getJ 52 zkd_11 39 d_Mo_isSo_49 ev20 rfl tw_1270 rfl ?_
      refine zi_lconst 0 d_Mo_isSo_52 rfl ?_
      refine zo_lc_ne d_Mo_isSo_53 d_Mo_isSo_54 rfl 57 rfl (fun c21 => ?_) (fun c21 => ?_)
      · rw [if_neg c21] at h
        refine zi_lo [(0, .ref a0), (1, .int x1)] [0, 1] rfl ?_
        exact K_Mo_isSo_b59 n E S a0 x1 q17 r M'  h
      · rw [if_pos c21] at h
        refine zi_iconst 0 d_Mo_isSo_57 rfl ?_
        cases h
        exact zo_retB d_Mo_isSo_58 (Nat.le_of_ble_eq_true rfl) (Nat.le_of_ble_eq_true rfl) rfl
theorem C_Mo_isSo (n : Nat) (E : zE) (S : zS) (a0 : Nat) (x1 : Int32) (M : zH) (r : Bool) (M' : zH) (h : F_Mo_isSo n E S a0 x1 M = some (r, M')) : zC E Y_Mo_isSo [.ref a0, .int x1] S M (some (.int (bI r)), S, M') :=
  zC.of (Or.inl (show plainName "NightColanderModel" = true by decide)) (Nat.le_of_ble_eq_true rfl) (bI_nar r) (K_Mo_isSo n E S a0 x1 M r M' h)
theorem d_Mo_tells_0 : decode (yB Y_Mo_tells) 0 = .ok (.aload_n 0, 1) := by decide +kernel
theorem d_Mo_tells_1 : decode (yB Y_Mo_tells) 1 = .ok (.getfield 13, 3) := by decide +kernel
theorem d_Mo_tells_4 : decode (yB Y_Mo_tells) 4 = .ok (.iconst 3, 1) := by decide +kernel
theorem d_Mo_tells_5 : decode (yB Y_Mo_tells) 5 = .ok (.iaload, 1) := by decide +kernel
theorem d_Mo_tells_6 : decode (yB Y_Mo_tells) 6 = .ok (.iconst (-1), 1) := by decide +kernel
theorem d_Mo_tells_7 : decode (yB Y_Mo_tells) 7 = .ok (.if_icmp .ne 5, 3) := by decide +kernel
theorem d_Mo_tells_10 : decode (yB Y_Mo_tells) 10 = .ok (.lload_n 3, 1) := by decide +kernel
theorem d_Mo_tells_11 : decode (yB Y_Mo_tells) 11 = .ok (.lreturn, 1) := by decide +kernel
theorem d_Mo_tells_12 : decode (yB Y_Mo_tells) 12 = .ok (.aload_n 0, 1) := by decide +kernel
theorem d_Mo_tells_13 : decode (yB Y_Mo_tells) 13 = .ok (.bipush 80, 2) := by decide +kernel
theorem d_Mo_tells_15 : decode (yB Y_Mo_tells) 15 = .ok (.sipush 900, 3) := by decide +kernel
theorem d_Mo_tells_18 : decode (yB Y_Mo_tells) 18 = .ok (.aload_n 0, 1) := by decide +kernel
theorem d_Mo_tells_19 : decode (yB Y_Mo_tells) 19 = .ok (.getfield 13, 3) := by decide +kernel
theorem d_Mo_tells_22 : decode (yB Y_Mo_tells) 22 = .ok (.iconst 3, 1) := by decide +kernel
theorem d_Mo_tells_23 : decode (yB Y_Mo_tells) 23 = .ok (.iaload, 1) := by decide +kernel
theorem d_Mo_tells_24 : decode (yB Y_Mo_tells) 24 = .ok (.imul, 1) := by decide +kernel
theorem d_Mo_tells_25 : decode (yB Y_Mo_tells) 25 = .ok (.iadd, 1) := by decide +kernel
theorem d_Mo_tells_26 : decode (yB Y_Mo_tells) 26 = .ok (.putfield 408, 3) := by decide +kernel
theorem d_Mo_tells_29 : decode (yB Y_Mo_tells) 29 = .ok (.aload_n 0, 1) := by decide +kernel
theorem d_Mo_tells_30 : decode (yB Y_Mo_tells) 30 = .ok (.getfield 103, 3) := by decide +kernel
theorem d_Mo_tells_33 : decode (yB Y_Mo_tells) 33 = .ok (.iconst 4, 1) := by decide +kernel
theorem d_Mo_tells_34 : decode (yB Y_Mo_tells) 34 = .ok (.iload_n 2, 1) := by decide +kernel
theorem d_Mo_tells_35 : decode (yB Y_Mo_tells) 35 = .ok (.i2l, 1) := by decide +kernel
theorem d_Mo_tells_36 : decode (yB Y_Mo_tells) 36 = .ok (.lastore, 1) := by decide +kernel
theorem d_Mo_tells_37 : decode (yB Y_Mo_tells) 37 = .ok (.aload_n 0, 1) := by decide +kernel
theorem d_Mo_tells_38 : decode (yB Y_Mo_tells) 38 = .ok (.getfield 103, 3) := by decide +kernel
theorem d_Mo_tells_41 : decode (yB Y_Mo_tells) 41 = .ok (.bipush 7, 2) := by decide +kernel
theorem d_Mo_tells_43 : decode (yB Y_Mo_tells) 43 = .ok (.aload_n 0, 1) := by decide +kernel
theorem d_Mo_tells_44 : decode (yB Y_Mo_tells) 44 = .ok (.getfield 13, 3) := by decide +kernel
theorem d_Mo_tells_47 : decode (yB Y_Mo_tells) 47 = .ok (.iconst 4, 1) := by decide +kernel
theorem d_Mo_tells_48 : decode (yB Y_Mo_tells) 48 = .ok (.iaload, 1) := by decide +kernel
theorem d_Mo_tells_49 : decode (yB Y_Mo_tells) 49 = .ok (.i2l, 1) := by decide +kernel
theorem d_Mo_tells_50 : decode (yB Y_Mo_tells) 50 = .ok (.lastore, 1) := by decide +kernel
theorem d_Mo_tells_51 : decode (yB Y_Mo_tells) 51 = .ok (.aload_n 0, 1) := by decide +kernel
theorem d_Mo_tells_52 : decode (yB Y_Mo_tells) 52 = .ok (.getfield 103, 3) := by decide +kernel
theorem d_Mo_tells_55 : decode (yB Y_Mo_tells) 55 = .ok (.bipush 8, 2) := by decide +kernel
theorem d_Mo_tells_57 : decode (yB Y_Mo_tells) 57 = .ok (.aload_n 0, 1) := by decide +kernel
theorem d_Mo_tells_58 : decode (yB Y_Mo_tells) 58 = .ok (.getfield 13, 3) := by decide +kernel
theorem d_Mo_tells_61 : decode (yB Y_Mo_tells) 61 = .ok (.iconst 5, 1) := by decide +kernel
theorem d_Mo_tells_62 : decode (yB Y_Mo_tells) 62 = .ok (.iaload, 1) := by decide +kernel
theorem d_Mo_tells_63 : decode (yB Y_Mo_tells) 63 = .ok (.i2l, 1) := by decide +kernel
theorem d_Mo_tells_64 : decode (yB Y_Mo_tells) 64 = .ok (.lastore, 1) := by decide +kernel
theorem d_Mo_tells_65 : decode (yB Y_Mo_tells) 65 = .ok (.aload_n 0, 1) := by decide +kernel
theorem d_Mo_tells_66 : decode (yB Y_Mo_tells) 66 = .ok (.getfield 103, 3) := by decide +kernel
theorem d_Mo_tells_69 : decode (yB Y_Mo_tells) 69 = .ok (.bipush 9, 2) := by decide +kernel
theorem d_Mo_tells_71 : decode (yB Y_Mo_tells) 71 = .ok (.aload_n 0, 1) := by decide +kernel
theorem d_Mo_tells_72 : decode (yB Y_Mo_tells) 72 = .ok (.getfield 13, 3) := by decide +kernel
theorem d_Mo_tells_75 : decode (yB Y_Mo_tells) 75 = .ok (.bipush 6, 2) := by decide +kernel
theorem d_Mo_tells_77 : decode (yB Y_Mo_tells) 77 = .ok (.iaload, 1) := by decide +kernel
theorem d_Mo_tells_78 : decode (yB Y_Mo_tells) 78 = .ok (.i2l, 1) := by decide +kernel
theorem d_Mo_tells_79 : decode (yB Y_Mo_tells) 79 = .ok (.lastore, 1) := by decide +kernel
theorem d_Mo_tells_80 : decode (yB Y_Mo_tells) 80 = .ok (.lload_n 3, 1) := by decide +kernel
theorem d_Mo_tells_81 : decode (yB Y_Mo_tells) 81 = .ok (.lstore 5, 2) := by decide +kernel
theorem d_Mo_tells_83 : decode (yB Y_Mo_tells) 83 = .ok (.iconst 0, 1) := by decide +kernel
theorem d_Mo_tells_84 : decode (yB Y_Mo_tells) 84 = .ok (.istore 7, 2) := by decide +kernel
theorem d_Mo_tells_86 : decode (yB Y_Mo_tells) 86 = .ok (.iload 7, 2) := by decide +kernel
theorem d_Mo_tells_88 : decode (yB Y_Mo_tells) 88 = .ok (.aload_n 0, 1) := by decide +kernel
theorem d_Mo_tells_89 : decode (yB Y_Mo_tells) 89 = .ok (.getfield 13, 3) := by decide +kernel
theorem d_Mo_tells_92 : decode (yB Y_Mo_tells) 92 = .ok (.aload_n 0, 1) := by decide +kernel
theorem d_Mo_tells_93 : decode (yB Y_Mo_tells) 93 = .ok (.getfield 408, 3) := by decide +kernel
theorem d_Mo_tells_96 : decode (yB Y_Mo_tells) 96 = .ok (.iconst 1, 1) := by decide +kernel
theorem d_Mo_tells_97 : decode (yB Y_Mo_tells) 97 = .ok (.iadd, 1) := by decide +kernel
theorem d_Mo_tells_98 : decode (yB Y_Mo_tells) 98 = .ok (.iaload, 1) := by decide +kernel
theorem d_Mo_tells_99 : decode (yB Y_Mo_tells) 99 = .ok (.if_icmp .ge 58, 3) := by decide +kernel
theorem d_Mo_tells_102 : decode (yB Y_Mo_tells) 102 = .ok (.aload_n 0, 1) := by decide +kernel
theorem d_Mo_tells_103 : decode (yB Y_Mo_tells) 103 = .ok (.getfield 408, 3) := by decide +kernel
theorem d_Mo_tells_106 : decode (yB Y_Mo_tells) 106 = .ok (.iconst 2, 1) := by decide +kernel
theorem d_Mo_tells_107 : decode (yB Y_Mo_tells) 107 = .ok (.iadd, 1) := by decide +kernel
theorem d_Mo_tells_108 : decode (yB Y_Mo_tells) 108 = .ok (.bipush 8, 2) := by decide +kernel
theorem d_Mo_tells_110 : decode (yB Y_Mo_tells) 110 = .ok (.iload 7, 2) := by decide +kernel
theorem d_Mo_tells_112 : decode (yB Y_Mo_tells) 112 = .ok (.imul, 1) := by decide +kernel
theorem d_Mo_tells_113 : decode (yB Y_Mo_tells) 113 = .ok (.iadd, 1) := by decide +kernel
theorem d_Mo_tells_114 : decode (yB Y_Mo_tells) 114 = .ok (.istore 8, 2) := by decide +kernel
theorem d_Mo_tells_116 : decode (yB Y_Mo_tells) 116 = .ok (.aload_n 0, 1) := by decide +kernel
theorem d_Mo_tells_117 : decode (yB Y_Mo_tells) 117 = .ok (.getfield 13, 3) := by decide +kernel
theorem d_Mo_tells_120 : decode (yB Y_Mo_tells) 120 = .ok (.iload 8, 2) := by decide +kernel
theorem d_Mo_tells_122 : decode (yB Y_Mo_tells) 122 = .ok (.iaload, 1) := by decide +kernel
theorem d_Mo_tells_123 : decode (yB Y_Mo_tells) 123 = .ok (.iload_n 1, 1) := by decide +kernel
theorem d_Mo_tells_124 : decode (yB Y_Mo_tells) 124 = .ok (.if_icmp .ne 27, 3) := by decide +kernel
theorem d_Mo_tells_127 : decode (yB Y_Mo_tells) 127 = .ok (.aload_n 0, 1) := by decide +kernel
theorem d_Mo_tells_128 : decode (yB Y_Mo_tells) 128 = .ok (.iload 8, 2) := by decide +kernel
theorem d_Mo_tells_130 : decode (yB Y_Mo_tells) 130 = .ok (.invokevirtual 428, 3) := by decide +kernel
theorem d_Mo_tells_133 : decode (yB Y_Mo_tells) 133 = .ok (.ifCond .eq 18, 3) := by decide +kernel
theorem d_Mo_tells_136 : decode (yB Y_Mo_tells) 136 = .ok (.iload_n 1, 1) := by decide +kernel
theorem d_Mo_tells_137 : decode (yB Y_Mo_tells) 137 = .ok (.iconst 3, 1) := by decide +kernel
theorem d_Mo_tells_138 : decode (yB Y_Mo_tells) 138 = .ok (.if_icmp .ne 7, 3) := by decide +kernel
theorem d_Mo_tells_141 : decode (yB Y_Mo_tells) 141 = .ok (.lconst 1, 1) := by decide +kernel
theorem d_Mo_tells_142 : decode (yB Y_Mo_tells) 142 = .ok (.goto 7, 3) := by decide +kernel
theorem d_Mo_tells_145 : decode (yB Y_Mo_tells) 145 = .ok (.aload_n 0, 1) := by decide +kernel
theorem d_Mo_tells_146 : decode (yB Y_Mo_tells) 146 = .ok (.getfield 425, 3) := by decide +kernel
theorem d_Mo_tells_149 : decode (yB Y_Mo_tells) 149 = .ok (.lstore 5, 2) := by decide +kernel
theorem d_Mo_tells_151 : decode (yB Y_Mo_tells) 151 = .ok (.iinc 7 1, 3) := by decide +kernel
theorem d_Mo_tells_154 : decode (yB Y_Mo_tells) 154 = .ok (.goto (-68), 3) := by decide +kernel
theorem d_Mo_tells_157 : decode (yB Y_Mo_tells) 157 = .ok (.lload 5, 2) := by decide +kernel
theorem d_Mo_tells_159 : decode (yB Y_Mo_tells) 159 = .ok (.lreturn, 1) := by decide +kernel
def F_Mo_tells_b151 (n : Nat) (E : zE) (S : zS) (r86 : Nat × Int32 × Int64 × Int32 × zH → Option (Int64 × zH)) (a0 : Nat) (x1 : Int32) (y5 : Int64) (x7 : Int32) (M : zH) : Option (Int64 × zH) :=
  r86 (a0, x1, y5, x7 + 1, M)
def F_Mo_tells_b149 (n : Nat) (E : zE) (S : zS) (r86 : Nat × Int32 × Int64 × Int32 × zH → Option (Int64 × zH)) (a0 : Nat) (x1 : Int32) (x7 : Int32) (t0 : Int64) (M : zH) : Option (Int64 × zH) :=
  F_Mo_tells_b151 n E S r86 a0 x1 t0 x7 M
def F_Mo_tells_L86 (n : Nat) (E : zE) (S : zS) (r86 : Nat × Int32 × Int64 × Int32 × zH → Option (Int64 × zH)) (a0 : Nat) (x1 : Int32) (y5 : Int64) (x7 : Int32) (M : zH) : Option (Int64 × zH) :=
  (zgR S a0 11 3).bind fun b1 =>
  (zgI S M a0 11 34).bind fun v2 =>
  (zldI S M b1 (v2 + 1)).bind fun v3 =>
  if v3 ≤ x7 then
    some (y5, M)
  else
    (zgI S M a0 11 34).bind fun v5 =>
    (zldI S M b1 ((v5 + 2) + (8 * x7))).bind fun v6 =>
    if v6 = x1 then
      (F_Mo_isSo n E S a0 ((v5 + 2) + (8 * x7)) M).bind fun q8 =>
      if q8.1 = true then
        if x1 = 3 then
          F_Mo_tells_b149 n E S r86 a0 x1 x7 1 q8.2
        else
          (zgJ S q8.2 a0 11 40).bind fun v11 =>
          F_Mo_tells_b149 n E S r86 a0 x1 x7 v11 q8.2
      else
        F_Mo_tells_b151 n E S r86 a0 x1 y5 x7 q8.2
    else
      F_Mo_tells_b151 n E S r86 a0 x1 y5 x7 M
def F_Mo_tells_b86 (n : Nat) (E : zE) (S : zS) : Nat × Int32 × Int64 × Int32 × zH → Option (Int64 × zH) := zfix (fun r86 s => F_Mo_tells_L86 n E S r86 s.1 s.2.1 s.2.2.1 s.2.2.2.1 s.2.2.2.2) n
def F_Mo_tells (n : Nat) (E : zE) (S : zS) (a0 : Nat) (x1 : Int32) (x2 : Int32) (y3 : Int64) (M : zH) : Option (Int64 × zH) :=
  (zgR S a0 11 3).bind fun b12 =>
  (zldI S M b12 3).bind fun v13 =>
  if v13 = (-1) then
    some (y3, M)
  else
    (zldI S M b12 3).bind fun v15 =>
    (zpI S M a0 11 34 (80 + (900 * v15))).bind fun m16 =>
    (zgR S a0 11 35).bind fun b17 =>
    (zstJ S m16 b17 4 x2.toInt64).bind fun m18 =>
    (zldI S m18 b12 4).bind fun v19 =>
    (zstJ S m18 b17 7 v19.toInt64).bind fun m20 =>
    (zldI S m20 b12 5).bind fun v21 =>
    (zstJ S m20 b17 8 v21.toInt64).bind fun m22 =>
    (zldI S m22 b12 6).bind fun v23 =>
    (zstJ S m22 b17 9 v23.toInt64).bind fun m24 =>
    F_Mo_tells_b86 n E S (a0, x1, y3, 0, m24)
theorem K_Mo_tells_b151 (n : Nat) (E : zE) (S : zS) (r86 : Nat × Int32 × Int64 × Int32 × zH → Option (Int64 × zH)) (a0 : Nat) (x1 : Int32) (y5 : Int64) (x7 : Int32) (M : zH) (r : Int64) (M' : zH) (hr86 : ∀ (a0 : Nat) (x1 : Int32) (y5 : Int64) (x7 : Int32) (M : zH), r86 (a0, x1, y5, x7, M) = some (r, M') → zG E Y_Mo_tells (some (.long r), S, M') 86 [(0, .ref a0), (1, .int x1), (5, .long y5), (7, .int x7)] [] S M 0 0) (h : F_Mo_tells_b151 n E S r86 a0 x1 y5 x7 M = some (r, M')) : zG E Y_Mo_tells (some (.long r), S, M') 151 [(0, .ref a0), (1, .int x1), (5, .long y5), (7, .int x7)] [] S M 0 0 := by
  unfold F_Mo_tells_b151 at h
  refine zi_iinc 3 (x7 + 1) [(7, .int (x7 + 1)), (0, .ref a0), (1, .int x1), (5, .long y5)] d_Mo_tells_151 rfl rfl (by decide) rfl ?_
  refine zi_goto (tgt := 86) d_Mo_tells_154 rfl ?_
  refine zi_lo [(0, .ref a0), (1, .int x1), (5, .long y5), (7, .int (x7 + 1))] [1, 2, 3, 0] rfl ?_
  exact hr86 a0 x1 y5 (x7 + 1) M h
theorem K_Mo_tells_b149 (n : Nat) (E : zE) (S : zS) (r86 : Nat × Int32 × Int64 × Int32 × zH → Option (Int64 × zH)) (a0 : Nat) (x1 : Int32) (x7 : Int32) (t0 : Int64) (M : zH) (r : Int64) (M' : zH) (hr86 : ∀ (a0 : Nat) (x1 : Int32) (y5 : Int64) (x7 : Int32) (M : zH), r86 (a0, x1, y5, x7, M) = some (r, M') → zG E Y_Mo_tells (some (.long r), S, M') 86 [(0, .ref a0), (1, .int x1), (5, .long y5), (7, .int x7)] [] S M 0 0) (h : F_Mo_tells_b149 n E S r86 a0 x1 x7 t0 M = some (r, M')) : zG E Y_Mo_tells (some (.long r), S, M') 149 [(0, .ref a0), (1, .int x1), (7, .int x7)] [.long t0] S M 0 0 := by
  unfold F_Mo_tells_b149 at h
  refine zi_lstore [(5, .long t0), (0, .ref a0), (1, .int x1), (7, .int x7)] d_Mo_tells_149 (by decide) rfl ?_
  refine zi_lo [(0, .ref a0), (1, .int x1), (5, .long t0), (7, .int x7)] [1, 2, 0, 3] rfl ?_
  exact K_Mo_tells_b151 n E S r86 a0 x1 t0 x7 M r M' hr86 h
theorem K_Mo_tells_L86 (n : Nat) (E : zE) (S : zS) (r86 : Nat × Int32 × Int64 × Int32 × zH → Option (Int64 × zH)) (a0 : Nat) (x1 : Int32) (y5 : Int64) (x7 : Int32) (M : zH) (r : Int64) (M' : zH) (hr86 : ∀ (a0 : Nat) (x1 : Int32) (y5 : Int64) (x7 : Int32) (M : zH), r86 (a0, x1, y5, x7, M) = some (r, M') → zG E Y_Mo_tells (some (.long r), S, M') 86 [(0, .ref a0), (1, .int x1), (5, .long y5), (7, .int x7)] [] S M 0 0) (h : F_Mo_tells_L86 n E S r86 a0 x1 y5 x7 M = some (r, M')) : zG E Y_Mo_tells (some (.long r), S, M') 86 [(0, .ref a0), (1, .int x1), (5, .long y5), (7, .int x7)] [] S M 0 0 := by
  unfold F_Mo_tells_L86 at h
  refine zi_iload 3 d_Mo_tells_86 rfl ?_
  refine zi_aload_n 0 d_Mo_tells_88 rfl ?_
  obtain ⟨b1, eb1, h⟩ := zbind h
  refine zo_getR 92 zkd_11 3 d_Mo_tells_89 eb1 rfl tw_1234 rfl ?_
  refine zi_aload_n 0 d_Mo_tells_92 rfl ?_
  obtain ⟨v2, ev2, h⟩ := zbind h
  refine zo_getI 96 zkd_11 34 d_Mo_tells_93 ev2 rfl tw_1265 rfl ?_
  refine zi_iconst 1 d_Mo_tells_96 rfl ?_
  refine zi_iadd d_Mo_tells_97 ?_
  obtain ⟨v3, ev3, h⟩ := zbind h
  refine zo_iald 99 d_Mo_tells_98 ev3 rfl ?_
  refine zi_icmp_ge (tgt := 157) d_Mo_tells_99 rfl (fun c4 => ?_) (fun c4 => ?_)
  · rw [if_pos c4] at h
    refine zi_lload 2 d_Mo_tells_157 rfl ?_
    cases h
    exact zo_ret d_Mo_tells_159 (Nat.le_of_ble_eq_true rfl) (Nat.le_of_ble_eq_true rfl) rfl
  · rw [if_neg c4] at h
    refine zi_aload_n 0 d_Mo_tells_102 rfl ?_
    obtain ⟨v5, ev5, h⟩ := zbind h
    refine zo_getI 106 zkd_11 34 d_Mo_tells_103 ev5 rfl tw_1265 rfl ?_
    refine zi_iconst 2 d_Mo_tells_106 rfl ?_
    refine zi_iadd d_Mo_tells_107 ?_
    refine zi_bipush 8 d_Mo_tells_108 rfl ?_
    refine zi_iload 3 d_Mo_tells_110 rfl ?_
    refine zi_imul d_Mo_tells_112 ?_
    refine zi_iadd d_Mo_tells_113 ?_
    refine zi_istore [(8, .int ((v5 + 2) + (8 * x7))), (0, .ref a0), (1, .int x1), (5, .long y5), (7, .int x7)] d_Mo_tells_114 (by decide) rfl ?_
    refine zi_aload_n 1 d_Mo_tells_116 rfl ?_
    refine zo_getR 120 zkd_11 3 d_Mo_tells_117 eb1 rfl tw_1234 rfl ?_
    refine zi_iload 0 d_Mo_tells_120 rfl ?_
    obtain ⟨v6, ev6, h⟩ := zbind h
    refine zo_iald 123 d_Mo_tells_122 ev6 rfl ?_
    refine zi_iload_n 2 d_Mo_tells_123 rfl ?_
    refine zi_icmp_ne (tgt := 151) d_Mo_tells_124 rfl (fun c7 => ?_) (fun c7 => ?_)
    · rw [if_neg c7] at h
      refine zi_lo [(0, .ref a0), (1, .int x1), (5, .long y5), (7, .int x7)] [1, 2, 3, 4] rfl ?_
      exact K_Mo_tells_b151 n E S r86 a0 x1 y5 x7 M r M' hr86 h
    · rw [if_pos c7] at h
      refine zi_aload_n 1 d_Mo_tells_127 rfl ?_
      refine zi_iload 0 d_Mo_tells_128 rfl ?_
      obtain ⟨q8, eq8, h⟩ := zbind h
      refine zo_virt (k' := 0) (n' := 0) 133 [.int ((v5 + 2) + (8 * x7))] [] [.int (bI q8.1)] zkd_11 (zgR_s eb1).1 (C_Mo_isSo n E S a0 ((v5 + 2) + (8 * x7)) M q8.1 q8.2 eq8) d_Mo_tells_130 tw_1457 tw_1454 tw_1456 ts_41 tw_13 dd_Mo_isSo ⟨Nat.le_of_ble_eq_true rfl, Nat.le_of_ble_eq_true rfl, Nat.le_of_ble_eq_true rfl, Nat.le_of_ble_eq_true rfl⟩ (Nat.le_of_ble_eq_true rfl) rfl rfl rfl rfl ?_
      refine zo_ifeqB d_Mo_tells_133 rfl 136 rfl (fun c9 => ?_) (fun c9 => ?_)
      · rw [if_neg c9] at h
        refine zi_lo [(0, .ref a0), (1, .int x1), (5, .long y5), (7, .int x7)] [1, 2, 3, 4] rfl ?_
        exact K_Mo_tells_b151 n E S r86 a0 x1 y5 x7 q8.2 r M' hr86 h
      · rw [if_pos c9] at h
        refine zi_iload_n 2 d_Mo_tells_136 rfl ?_
        refine zi_iconst 3 d_Mo_tells_137 rfl ?_
        refine zi_icmp_ne (tgt := 145) d_Mo_tells_138 rfl (fun c10 => ?_) (fun c10 => ?_)
        · rw [if_neg c10] at h
          refine zi_aload_n 1 d_Mo_tells_145 rfl ?_
          obtain ⟨v11, ev11, h⟩ := zbind h
          refine zo_getJ 149 zkd_11 40 d_Mo_tells_146 ev11 rfl tw_1271 rfl ?_
          refine zi_lo [(0, .ref a0), (1, .int x1), (7, .int x7)] [1, 2, 4] rfl ?_
          exact K_Mo_tells_b149 n E S r86 a0 x1 x7 v11 q8.2 r M' hr86 h
        · rw [if_pos c10] at h
          refine zi_lconst 1 d_Mo_tells_141 rfl ?_
          refine zi_goto (tgt := 149) d_Mo_tells_142 rfl ?_
          refine zi_lo [(0, .ref a0), (1, .int x1), (7, .int x7)] [1, 2, 4] rfl ?_
          exact K_Mo_tells_b149 n E S r86 a0 x1 x7 1 q8.2 r M' hr86 h
theorem K_Mo_tells_b86 (n : Nat) (E : zE) (S : zS) (a0 : Nat) (x1 : Int32) (y5 : Int64) (x7 : Int32) (M : zH) (r : Int64) (M' : zH)  (h : F_Mo_tells_b86 n E S (a0, x1, y5, x7, M) = some (r, M')) : zG E Y_Mo_tells (some (.long r), S, M') 86 [(0, .ref a0), (1, .int x1), (5, .long y5), (7, .int x7)] [] S M 0 0 := by
  have key : ∀ (k : Nat) (a0 : Nat) (x1 : Int32) (y5 : Int64) (x7 : Int32) (M : zH), zfix (fun r86 s => F_Mo_tells_L86 n E S r86 s.1 s.2.1 s.2.2.1 s.2.2.2.1 s.2.2.2.2) k (a0, x1, y5, x7, M) = some (r, M') → zG E Y_Mo_tells (some (.long r), S, M') 86 [(0, .ref a0), (1, .int x1), (5, .long y5), (7, .int x7)] [] S M 0 0 := by
    intro k
    induction k with
    | zero => intro a0 x1 y5 x7 M h; cases h
    | succ k ih => intro a0 x1 y5 x7 M h; exact K_Mo_tells_L86 n E S _ a0 x1 y5 x7 M r M'  (fun a0 x1 y5 x7 M h => ih a0 x1 y5 x7 M h) h
  exact key n a0 x1 y5 x7 M h
theorem K_Mo_tells (n : Nat) (E : zE) (S : zS) (a0 : Nat) (x1 : Int32) (x2 : Int32) (y3 : Int64) (M : zH) (r : Int64) (M' : zH)  (h : F_Mo_tells n E S a0 x1 x2 y3 M = some (r, M')) : zG E Y_Mo_tells (some (.long r), S, M') 0 [(0, .ref a0), (1, .int x1), (2, .int x2), (3, .long y3)] [] S M 0 0 := by
  unfold F_Mo_tells at h
  refine zi_aload_n 0 d_Mo_tells_0 rfl ?_
  obtain ⟨b12, eb12, h⟩ := zbind h
  refine zo_getR 4 zkd_11 3 d_Mo_tells_1 eb12 rfl tw_1234 rfl ?_
  refine zi_iconst 3 d_Mo_tells_4 rfl ?_
  obtain ⟨v13, ev13, h⟩ := zbind h
  refine zo_iald 6 d_Mo_tells_5 ev13 rfl ?_
  refine zi_iconst (-1) d_Mo_tells_6 rfl ?_
  refine zi_icmp_ne (tgt := 12) d_Mo_tells_7 rfl (fun c14 => ?_) (fun c14 => ?_)
  · rw [if_neg c14] at h
    refine zi_aload_n 0 d_Mo_tells_12 rfl ?_
    refine zi_bipush 80 d_Mo_tells_13 rfl ?_
    refine zi_sipush 900 d_Mo_tells_15 rfl ?_
    refine zi_aload_n 0 d_Mo_tells_18 rfl ?_
    refine zo_getR 22 zkd_11 3 d_Mo_tells_19 eb12 rfl tw_1234 rfl ?_
    refine zi_iconst 3 d_Mo_tells_22 rfl ?_
    obtain ⟨v15, ev15, h⟩ := zbind h
    refine zo_iald 24 d_Mo_tells_23 ev15 rfl ?_
    refine zi_imul d_Mo_tells_24 ?_
    refine zi_iadd d_Mo_tells_25 ?_
    obtain ⟨m16, em16, h⟩ := zbind h
    refine zo_putI 29 zkd_11 34 d_Mo_tells_26 em16 rfl rfl rfl tw_1265 rfl ?_
    refine zi_aload_n 0 d_Mo_tells_29 rfl ?_
    obtain ⟨b17, eb17, h⟩ := zbind h
    refine zo_getR 33 zkd_11 35 d_Mo_tells_30 eb17 rfl tw_1266 rfl ?_
    refine zi_iconst 4 d_Mo_tells_33 rfl ?_
    refine zi_iload_n 2 d_Mo_tells_34 rfl ?_
    refine zi_i2l d_Mo_tells_35 ?_
    obtain ⟨m18, em18, h⟩ := zbind h
    refine zo_last 37 d_Mo_tells_36 em18 rfl ?_
    refine zi_aload_n 0 d_Mo_tells_37 rfl ?_
    refine zo_getR 41 zkd_11 35 d_Mo_tells_38 eb17 rfl tw_1266 rfl ?_
    refine zi_bipush 7 d_Mo_tells_41 rfl ?_
    refine zi_aload_n 0 d_Mo_tells_43 rfl ?_
    refine zo_getR 47 zkd_11 3 d_Mo_tells_44 eb12 rfl tw_1234 rfl ?_
    refine zi_iconst 4 d_Mo_tells_47 rfl ?_
    obtain ⟨v19, ev19, h⟩ := zbind h
    refine zo_iald 49 d_Mo_tells_48 ev19 rfl ?_
    refine zi_i2l d_Mo_tells_49 ?_
    obtain ⟨m20, em20, h⟩ := zbind h
    refine zo_last 51 d_Mo_tells_50 em20 rfl ?_
    refine zi_aload_n 0 d_Mo_tells_51 rfl ?_
    refine zo_getR 55 zkd_11 35 d_Mo_tells_52 eb17 rfl tw_1266 rfl ?_
    refine zi_bipush 8 d_Mo_tells_55 rfl ?_
    refine zi_aload_n 0 d_Mo_tells_57 rfl ?_
    refine zo_getR 61 zkd_11 3 d_Mo_tells_58 eb12 rfl tw_1234 rfl ?_
    refine zi_iconst 5 d_Mo_tells_61 rfl ?_
    obtain ⟨v21, ev21, h⟩ := zbind h
    refine zo_iald 63 d_Mo_tells_62 ev21 rfl ?_
    refine zi_i2l d_Mo_tells_63 ?_
    obtain ⟨m22, em22, h⟩ := zbind h
    refine zo_last 65 d_Mo_tells_64 em22 rfl ?_
    refine zi_aload_n 0 d_Mo_tells_65 rfl ?_
    refine zo_getR 69 zkd_11 35 d_Mo_tells_66 eb17 rfl tw_1266 rfl ?_
    refine zi_bipush 9 d_Mo_tells_69 rfl ?_
    refine zi_aload_n 0 d_Mo_tells_71 rfl ?_
    refine zo_getR 75 zkd_11 3 d_Mo_tells_72 eb12 rfl tw_1234 rfl ?_
    refine zi_bipush 6 d_Mo_tells_75 rfl ?_
    obtain ⟨v23, ev23, h⟩ := zbind h
    refine zo_iald 78 d_Mo_tells_77 ev23 rfl ?_
    refine zi_i2l d_Mo_tells_78 ?_
    obtain ⟨m24, em24, h⟩ := zbind h
    refine zo_last 80 d_Mo_tells_79 em24 rfl ?_
    refine zi_lload_n 3 d_Mo_tells_80 rfl ?_
    refine zi_lstore [(5, .long y3), (0, .ref a0), (1, .int x1), (2, .int x2), (3, .long y3)] d_Mo_tells_81 (by decide) rfl ?_
    refine zi_iconst 0 d_Mo_tells_83 rfl ?_
    refine zi_istore [(7, .int 0), (5, .long y3), (0, .ref a0), (1, .int x1), (2, .int x2), (3, .long y3)] d_Mo_tells_84 (by decide) rfl ?_
    refine zi_lo [(0, .ref a0), (1, .int x1), (5, .long y3), (7, .int 0)] [2, 3, 1, 0] rfl ?_
    exact K_Mo_tells_b86 n E S a0 x1 y3 0 m24 r M'  h
  · rw [if_pos c14] at h
    refine zi_lload_n 3 d_Mo_tells_10 rfl ?_
    cases h
    exact zo_ret d_Mo_tells_11 (Nat.le_of_ble_eq_true rfl) (Nat.le_of_ble_eq_true rfl) rfl
theorem C_Mo_tells (n : Nat) (E : zE) (S : zS) (a0 : Nat) (x1 : Int32) (x2 : Int32) (y3 : Int64) (M : zH) (r : Int64) (M' : zH) (h : F_Mo_tells n E S a0 x1 x2 y3 M = some (r, M')) : zC E Y_Mo_tells [.ref a0, .int x1, .int x2, .long y3] S M (some (.long r), S, M') :=
  zC.of (Or.inl (show plainName "NightColanderModel" = true by decide)) (Nat.le_of_ble_eq_true rfl) (trivial) (K_Mo_tells n E S a0 x1 x2 y3 M r M' h)
theorem d_Mo_within_0 : decode (yB Y_Mo_within) 0 = .ok (.lload_n 0, 1) := by decide +kernel
theorem d_Mo_within_1 : decode (yB Y_Mo_within) 1 = .ok (.iload_n 2, 1) := by decide +kernel
theorem d_Mo_within_2 : decode (yB Y_Mo_within) 2 = .ok (.i2l, 1) := by decide +kernel
theorem d_Mo_within_3 : decode (yB Y_Mo_within) 3 = .ok (.lcmp, 1) := by decide +kernel
theorem d_Mo_within_4 : decode (yB Y_Mo_within) 4 = .ok (.ifCond .ge 7, 3) := by decide +kernel
theorem d_Mo_within_7 : decode (yB Y_Mo_within) 7 = .ok (.iload_n 2, 1) := by decide +kernel
theorem d_Mo_within_8 : decode (yB Y_Mo_within) 8 = .ok (.goto 16, 3) := by decide +kernel
theorem d_Mo_within_11 : decode (yB Y_Mo_within) 11 = .ok (.lload_n 0, 1) := by decide +kernel
theorem d_Mo_within_12 : decode (yB Y_Mo_within) 12 = .ok (.iload_n 3, 1) := by decide +kernel
theorem d_Mo_within_13 : decode (yB Y_Mo_within) 13 = .ok (.i2l, 1) := by decide +kernel
theorem d_Mo_within_14 : decode (yB Y_Mo_within) 14 = .ok (.lcmp, 1) := by decide +kernel
theorem d_Mo_within_15 : decode (yB Y_Mo_within) 15 = .ok (.ifCond .le 7, 3) := by decide +kernel
theorem d_Mo_within_18 : decode (yB Y_Mo_within) 18 = .ok (.iload_n 3, 1) := by decide +kernel
theorem d_Mo_within_19 : decode (yB Y_Mo_within) 19 = .ok (.goto 5, 3) := by decide +kernel
theorem d_Mo_within_22 : decode (yB Y_Mo_within) 22 = .ok (.lload_n 0, 1) := by decide +kernel
theorem d_Mo_within_23 : decode (yB Y_Mo_within) 23 = .ok (.l2i, 1) := by decide +kernel
theorem d_Mo_within_24 : decode (yB Y_Mo_within) 24 = .ok (.ireturn, 1) := by decide +kernel
def F_Mo_within (n : Nat) (E : zE) (S : zS) (y0 : Int64) (x2 : Int32) (x3 : Int32) (M : zH) : Option (Int32 × zH) :=
  if x2.toInt64 ≤ y0 then
    if y0 ≤ x3.toInt64 then
      some (y0.toInt32, M)
    else
      some (x3, M)
  else
    some (x2, M)
theorem K_Mo_within (n : Nat) (E : zE) (S : zS) (y0 : Int64) (x2 : Int32) (x3 : Int32) (M : zH) (r : Int32) (M' : zH)  (h : F_Mo_within n E S y0 x2 x3 M = some (r, M')) : zG E Y_Mo_within (some (.int r), S, M') 0 [(0, .long y0), (2, .int x2), (3, .int x3)] [] S M 0 0 := by
  unfold F_Mo_within at h
  refine zi_lload_n 0 d_Mo_within_0 rfl ?_
  refine zi_iload_n 1 d_Mo_within_1 rfl ?_
  refine zi_i2l d_Mo_within_2 ?_
  refine zo_lc_ge d_Mo_within_3 d_Mo_within_4 rfl 7 rfl (fun c1 => ?_) (fun c1 => ?_)
  · rw [if_pos c1] at h
    refine zi_lload_n 0 d_Mo_within_11 rfl ?_
    refine zi_iload_n 2 d_Mo_within_12 rfl ?_
    refine zi_i2l d_Mo_within_13 ?_
    refine zo_lc_le d_Mo_within_14 d_Mo_within_15 rfl 18 rfl (fun c2 => ?_) (fun c2 => ?_)
    · rw [if_pos c2] at h
      refine zi_lload_n 0 d_Mo_within_22 rfl ?_
      refine zi_l2i d_Mo_within_23 ?_
      cases h
      exact zo_ret d_Mo_within_24 (Nat.le_of_ble_eq_true rfl) (Nat.le_of_ble_eq_true rfl) rfl
    · rw [if_neg c2] at h
      refine zi_iload_n 2 d_Mo_within_18 rfl ?_
      refine zi_goto (tgt := 24) d_Mo_within_19 rfl ?_
      cases h
      exact zo_ret d_Mo_within_24 (Nat.le_of_ble_eq_true rfl) (Nat.le_of_ble_eq_true rfl) rfl
  · rw [if_neg c1] at h
    refine zi_iload_n 1 d_Mo_within_7 rfl ?_
    refine zi_goto (tgt := 24) d_Mo_within_8 rfl ?_
    cases h
    exact zo_ret d_Mo_within_24 (Nat.le_of_ble_eq_true rfl) (Nat.le_of_ble_eq_true rfl) rfl
theorem C_Mo_within (n : Nat) (E : zE) (S : zS) (y0 : Int64) (x2 : Int32) (x3 : Int32) (M : zH) (r : Int32) (M' : zH) (h : F_Mo_within n E S y0 x2 x3 M = some (r, M')) : zC E Y_Mo_within [.long y0, .int x2, .int x3] S M (some (.int r), S, M') :=
  zC.of (Or.inl (show plainName "NightColanderModel" = true by decide)) (Nat.le_of_ble_eq_true rfl) (trivial) (K_Mo_within n E S y0 x2 x3 M r M' h)
