/-! METHODS (printed by gen/build.py): Pa_chanceOfFew NC_few Pa_worthBy NC_worth De_nextDraw De_runYears NC_years Ni_boresOfRing NC_drawn NC_image NC_back Ni_blockedHoles -/
theorem d_Pa_chanceOfFew_0 : decode (yB Y_Pa_chanceOfFew) 0 = .ok (.aload_n 0, 1) := by decide +kernel
theorem d_Pa_chanceOfFew_1 : decode (yB Y_Pa_chanceOfFew) 1 = .ok (.getfield 34, 3) := by decide +kernel
theorem d_Pa_chanceOfFew_4 : decode (yB Y_Pa_chanceOfFew) 4 = .ok (.lconst 0, 1) := by decide +kernel
theorem d_Pa_chanceOfFew_5 : decode (yB Y_Pa_chanceOfFew) 5 = .ok (.invokestatic 182, 3) := by decide +kernel
theorem d_Pa_chanceOfFew_8 : decode (yB Y_Pa_chanceOfFew) 8 = .ok (.aload_n 0, 1) := by decide +kernel
theorem d_Pa_chanceOfFew_9 : decode (yB Y_Pa_chanceOfFew) 9 = .ok (.getfield 34, 3) := by decide +kernel
theorem d_Pa_chanceOfFew_12 : decode (yB Y_Pa_chanceOfFew) 12 = .ok (.iconst 0, 1) := by decide +kernel
theorem d_Pa_chanceOfFew_13 : decode (yB Y_Pa_chanceOfFew) 13 = .ok (.ldc2_w 185, 3) := by decide +kernel
theorem d_Pa_chanceOfFew_16 : decode (yB Y_Pa_chanceOfFew) 16 = .ok (.lastore, 1) := by decide +kernel
theorem d_Pa_chanceOfFew_17 : decode (yB Y_Pa_chanceOfFew) 17 = .ok (.iconst 0, 1) := by decide +kernel
theorem d_Pa_chanceOfFew_18 : decode (yB Y_Pa_chanceOfFew) 18 = .ok (.istore 4, 2) := by decide +kernel
theorem d_Pa_chanceOfFew_20 : decode (yB Y_Pa_chanceOfFew) 20 = .ok (.iload 4, 2) := by decide +kernel
theorem d_Pa_chanceOfFew_22 : decode (yB Y_Pa_chanceOfFew) 22 = .ok (.iload_n 2, 1) := by decide +kernel
theorem d_Pa_chanceOfFew_23 : decode (yB Y_Pa_chanceOfFew) 23 = .ok (.if_icmp .ge 83, 3) := by decide +kernel
theorem d_Pa_chanceOfFew_26 : decode (yB Y_Pa_chanceOfFew) 26 = .ok (.aload_n 0, 1) := by decide +kernel
theorem d_Pa_chanceOfFew_27 : decode (yB Y_Pa_chanceOfFew) 27 = .ok (.getfield 34, 3) := by decide +kernel
theorem d_Pa_chanceOfFew_30 : decode (yB Y_Pa_chanceOfFew) 30 = .ok (.arraylength, 1) := by decide +kernel
theorem d_Pa_chanceOfFew_31 : decode (yB Y_Pa_chanceOfFew) 31 = .ok (.iconst 1, 1) := by decide +kernel
theorem d_Pa_chanceOfFew_32 : decode (yB Y_Pa_chanceOfFew) 32 = .ok (.isub, 1) := by decide +kernel
theorem d_Pa_chanceOfFew_33 : decode (yB Y_Pa_chanceOfFew) 33 = .ok (.istore 5, 2) := by decide +kernel
theorem d_Pa_chanceOfFew_35 : decode (yB Y_Pa_chanceOfFew) 35 = .ok (.iload 5, 2) := by decide +kernel
theorem d_Pa_chanceOfFew_37 : decode (yB Y_Pa_chanceOfFew) 37 = .ok (.ifCond .lt 63, 3) := by decide +kernel
theorem d_Pa_chanceOfFew_40 : decode (yB Y_Pa_chanceOfFew) 40 = .ok (.iload 5, 2) := by decide +kernel
theorem d_Pa_chanceOfFew_42 : decode (yB Y_Pa_chanceOfFew) 42 = .ok (.ifCond .le 22, 3) := by decide +kernel
theorem d_Pa_chanceOfFew_45 : decode (yB Y_Pa_chanceOfFew) 45 = .ok (.aload_n 0, 1) := by decide +kernel
theorem d_Pa_chanceOfFew_46 : decode (yB Y_Pa_chanceOfFew) 46 = .ok (.getfield 34, 3) := by decide +kernel
theorem d_Pa_chanceOfFew_49 : decode (yB Y_Pa_chanceOfFew) 49 = .ok (.iload 5, 2) := by decide +kernel
theorem d_Pa_chanceOfFew_51 : decode (yB Y_Pa_chanceOfFew) 51 = .ok (.iconst 1, 1) := by decide +kernel
theorem d_Pa_chanceOfFew_52 : decode (yB Y_Pa_chanceOfFew) 52 = .ok (.isub, 1) := by decide +kernel
theorem d_Pa_chanceOfFew_53 : decode (yB Y_Pa_chanceOfFew) 53 = .ok (.laload, 1) := by decide +kernel
theorem d_Pa_chanceOfFew_54 : decode (yB Y_Pa_chanceOfFew) 54 = .ok (.iload_n 3, 1) := by decide +kernel
theorem d_Pa_chanceOfFew_55 : decode (yB Y_Pa_chanceOfFew) 55 = .ok (.i2l, 1) := by decide +kernel
theorem d_Pa_chanceOfFew_56 : decode (yB Y_Pa_chanceOfFew) 56 = .ok (.lmul, 1) := by decide +kernel
theorem d_Pa_chanceOfFew_57 : decode (yB Y_Pa_chanceOfFew) 57 = .ok (.ldc2_w 187, 3) := by decide +kernel
theorem d_Pa_chanceOfFew_60 : decode (yB Y_Pa_chanceOfFew) 60 = .ok (.ldiv, 1) := by decide +kernel
theorem d_Pa_chanceOfFew_61 : decode (yB Y_Pa_chanceOfFew) 61 = .ok (.goto 4, 3) := by decide +kernel
theorem d_Pa_chanceOfFew_64 : decode (yB Y_Pa_chanceOfFew) 64 = .ok (.lconst 0, 1) := by decide +kernel
theorem d_Pa_chanceOfFew_65 : decode (yB Y_Pa_chanceOfFew) 65 = .ok (.lstore 6, 2) := by decide +kernel
theorem d_Pa_chanceOfFew_67 : decode (yB Y_Pa_chanceOfFew) 67 = .ok (.aload_n 0, 1) := by decide +kernel
theorem d_Pa_chanceOfFew_68 : decode (yB Y_Pa_chanceOfFew) 68 = .ok (.getfield 34, 3) := by decide +kernel
theorem d_Pa_chanceOfFew_71 : decode (yB Y_Pa_chanceOfFew) 71 = .ok (.iload 5, 2) := by decide +kernel
theorem d_Pa_chanceOfFew_73 : decode (yB Y_Pa_chanceOfFew) 73 = .ok (.aload_n 0, 1) := by decide +kernel
theorem d_Pa_chanceOfFew_74 : decode (yB Y_Pa_chanceOfFew) 74 = .ok (.getfield 34, 3) := by decide +kernel
theorem d_Pa_chanceOfFew_77 : decode (yB Y_Pa_chanceOfFew) 77 = .ok (.iload 5, 2) := by decide +kernel
theorem d_Pa_chanceOfFew_79 : decode (yB Y_Pa_chanceOfFew) 79 = .ok (.laload, 1) := by decide +kernel
theorem d_Pa_chanceOfFew_80 : decode (yB Y_Pa_chanceOfFew) 80 = .ok (.bipush 10, 2) := by decide +kernel
theorem d_Pa_chanceOfFew_82 : decode (yB Y_Pa_chanceOfFew) 82 = .ok (.iload_n 3, 1) := by decide +kernel
theorem d_Pa_chanceOfFew_83 : decode (yB Y_Pa_chanceOfFew) 83 = .ok (.isub, 1) := by decide +kernel
theorem d_Pa_chanceOfFew_84 : decode (yB Y_Pa_chanceOfFew) 84 = .ok (.i2l, 1) := by decide +kernel
theorem d_Pa_chanceOfFew_85 : decode (yB Y_Pa_chanceOfFew) 85 = .ok (.lmul, 1) := by decide +kernel
theorem d_Pa_chanceOfFew_86 : decode (yB Y_Pa_chanceOfFew) 86 = .ok (.ldc2_w 187, 3) := by decide +kernel
theorem d_Pa_chanceOfFew_89 : decode (yB Y_Pa_chanceOfFew) 89 = .ok (.ldiv, 1) := by decide +kernel
theorem d_Pa_chanceOfFew_90 : decode (yB Y_Pa_chanceOfFew) 90 = .ok (.lload 6, 2) := by decide +kernel
theorem d_Pa_chanceOfFew_92 : decode (yB Y_Pa_chanceOfFew) 92 = .ok (.ladd, 1) := by decide +kernel
theorem d_Pa_chanceOfFew_93 : decode (yB Y_Pa_chanceOfFew) 93 = .ok (.lastore, 1) := by decide +kernel
theorem d_Pa_chanceOfFew_94 : decode (yB Y_Pa_chanceOfFew) 94 = .ok (.iinc 5 (-1), 3) := by decide +kernel
theorem d_Pa_chanceOfFew_97 : decode (yB Y_Pa_chanceOfFew) 97 = .ok (.goto (-62), 3) := by decide +kernel
theorem d_Pa_chanceOfFew_100 : decode (yB Y_Pa_chanceOfFew) 100 = .ok (.iinc 4 1, 3) := by decide +kernel
theorem d_Pa_chanceOfFew_103 : decode (yB Y_Pa_chanceOfFew) 103 = .ok (.goto (-83), 3) := by decide +kernel
theorem d_Pa_chanceOfFew_106 : decode (yB Y_Pa_chanceOfFew) 106 = .ok (.lconst 0, 1) := by decide +kernel
theorem d_Pa_chanceOfFew_107 : decode (yB Y_Pa_chanceOfFew) 107 = .ok (.lstore 4, 2) := by decide +kernel
theorem d_Pa_chanceOfFew_109 : decode (yB Y_Pa_chanceOfFew) 109 = .ok (.iconst 0, 1) := by decide +kernel
theorem d_Pa_chanceOfFew_110 : decode (yB Y_Pa_chanceOfFew) 110 = .ok (.istore 6, 2) := by decide +kernel
theorem d_Pa_chanceOfFew_112 : decode (yB Y_Pa_chanceOfFew) 112 = .ok (.iload 6, 2) := by decide +kernel
theorem d_Pa_chanceOfFew_114 : decode (yB Y_Pa_chanceOfFew) 114 = .ok (.iload_n 1, 1) := by decide +kernel
theorem d_Pa_chanceOfFew_115 : decode (yB Y_Pa_chanceOfFew) 115 = .ok (.if_icmp .ge 31, 3) := by decide +kernel
theorem d_Pa_chanceOfFew_118 : decode (yB Y_Pa_chanceOfFew) 118 = .ok (.iload 6, 2) := by decide +kernel
theorem d_Pa_chanceOfFew_120 : decode (yB Y_Pa_chanceOfFew) 120 = .ok (.aload_n 0, 1) := by decide +kernel
theorem d_Pa_chanceOfFew_121 : decode (yB Y_Pa_chanceOfFew) 121 = .ok (.getfield 34, 3) := by decide +kernel
theorem d_Pa_chanceOfFew_124 : decode (yB Y_Pa_chanceOfFew) 124 = .ok (.arraylength, 1) := by decide +kernel
theorem d_Pa_chanceOfFew_125 : decode (yB Y_Pa_chanceOfFew) 125 = .ok (.if_icmp .ge 21, 3) := by decide +kernel
theorem d_Pa_chanceOfFew_128 : decode (yB Y_Pa_chanceOfFew) 128 = .ok (.lload 4, 2) := by decide +kernel
theorem d_Pa_chanceOfFew_130 : decode (yB Y_Pa_chanceOfFew) 130 = .ok (.aload_n 0, 1) := by decide +kernel
theorem d_Pa_chanceOfFew_131 : decode (yB Y_Pa_chanceOfFew) 131 = .ok (.getfield 34, 3) := by decide +kernel
theorem d_Pa_chanceOfFew_134 : decode (yB Y_Pa_chanceOfFew) 134 = .ok (.iload 6, 2) := by decide +kernel
theorem d_Pa_chanceOfFew_136 : decode (yB Y_Pa_chanceOfFew) 136 = .ok (.laload, 1) := by decide +kernel
theorem d_Pa_chanceOfFew_137 : decode (yB Y_Pa_chanceOfFew) 137 = .ok (.ladd, 1) := by decide +kernel
theorem d_Pa_chanceOfFew_138 : decode (yB Y_Pa_chanceOfFew) 138 = .ok (.lstore 4, 2) := by decide +kernel
theorem d_Pa_chanceOfFew_140 : decode (yB Y_Pa_chanceOfFew) 140 = .ok (.iinc 6 1, 3) := by decide +kernel
theorem d_Pa_chanceOfFew_143 : decode (yB Y_Pa_chanceOfFew) 143 = .ok (.goto (-31), 3) := by decide +kernel
theorem d_Pa_chanceOfFew_146 : decode (yB Y_Pa_chanceOfFew) 146 = .ok (.lload 4, 2) := by decide +kernel
theorem d_Pa_chanceOfFew_148 : decode (yB Y_Pa_chanceOfFew) 148 = .ok (.lreturn, 1) := by decide +kernel
def F_Pa_chanceOfFew_b65 (n : Nat) (E : zE) (S : zS) (r20 : Nat × Int32 × Int32 × Int32 × Int32 × zH → Option (Int64 × zH)) (r35 : Nat × Int32 × Int32 × Int32 × Int32 × Int32 × zH → Option (Int64 × zH)) (a0 : Nat) (x1 : Int32) (x2 : Int32) (x3 : Int32) (x4 : Int32) (x5 : Int32) (t0 : Int64) (M : zH) : Option (Int64 × zH) :=
  (zgR S a0 4 7).bind fun b1 =>
  (zldJ S M b1 x5).bind fun v2 =>
  (zdivJ (v2 * ((10 - x3).toInt64)) 10).bind fun v3 =>
  (zstJ S M b1 x5 (v3 + t0)).bind fun m4 =>
  r35 (a0, x1, x2, x3, x4, x5 + (-1), m4)
def F_Pa_chanceOfFew_L35 (n : Nat) (E : zE) (S : zS) (r20 : Nat × Int32 × Int32 × Int32 × Int32 × zH → Option (Int64 × zH)) (r35 : Nat × Int32 × Int32 × Int32 × Int32 × Int32 × zH → Option (Int64 × zH)) (a0 : Nat) (x1 : Int32) (x2 : Int32) (x3 : Int32) (x4 : Int32) (x5 : Int32) (M : zH) : Option (Int64 × zH) :=
  if x5 < 0 then
    r20 (a0, x1, x2, x3, x4 + 1, M)
  else
    if x5 ≤ 0 then
      F_Pa_chanceOfFew_b65 n E S r20 r35 a0 x1 x2 x3 x4 x5 0 M
    else
      (zgR S a0 4 7).bind fun b7 =>
      (zldJ S M b7 (x5 - 1)).bind fun v8 =>
      (zdivJ (v8 * x3.toInt64) 10).bind fun v9 =>
      F_Pa_chanceOfFew_b65 n E S r20 r35 a0 x1 x2 x3 x4 x5 v9 M
def F_Pa_chanceOfFew_b35 (n : Nat) (E : zE) (S : zS) (r20 : Nat × Int32 × Int32 × Int32 × Int32 × zH → Option (Int64 × zH)) : Nat × Int32 × Int32 × Int32 × Int32 × Int32 × zH → Option (Int64 × zH) := zfix (fun r35 s => F_Pa_chanceOfFew_L35 n E S r20 r35 s.1 s.2.1 s.2.2.1 s.2.2.2.1 s.2.2.2.2.1 s.2.2.2.2.2.1 s.2.2.2.2.2.2) n
def F_Pa_chanceOfFew_L112 (n : Nat) (E : zE) (S : zS) (r112 : Nat × Int32 × Int64 × Int32 × zH → Option (Int64 × zH)) (a0 : Nat) (x1 : Int32) (y4 : Int64) (x6 : Int32) (M : zH) : Option (Int64 × zH) :=
  if x1 ≤ x6 then
    some (y4, M)
  else
    (zgR S a0 4 7).bind fun b11 =>
    (zlen S 15 b11).bind fun v12 =>
    if v12 ≤ x6 then
      some (y4, M)
    else
      (zldJ S M b11 x6).bind fun v14 =>
      r112 (a0, x1, y4 + v14, x6 + 1, M)
def F_Pa_chanceOfFew_b112 (n : Nat) (E : zE) (S : zS) : Nat × Int32 × Int64 × Int32 × zH → Option (Int64 × zH) := zfix (fun r112 s => F_Pa_chanceOfFew_L112 n E S r112 s.1 s.2.1 s.2.2.1 s.2.2.2.1 s.2.2.2.2) n
def F_Pa_chanceOfFew_L20 (n : Nat) (E : zE) (S : zS) (r20 : Nat × Int32 × Int32 × Int32 × Int32 × zH → Option (Int64 × zH)) (a0 : Nat) (x1 : Int32) (x2 : Int32) (x3 : Int32) (x4 : Int32) (M : zH) : Option (Int64 × zH) :=
  if x2 ≤ x4 then
    F_Pa_chanceOfFew_b112 n E S (a0, x1, 0, 0, M)
  else
    (zgR S a0 4 7).bind fun b16 =>
    (zlen S 15 b16).bind fun v17 =>
    F_Pa_chanceOfFew_b35 n E S r20 (a0, x1, x2, x3, x4, v17 - 1, M)
def F_Pa_chanceOfFew_b20 (n : Nat) (E : zE) (S : zS) : Nat × Int32 × Int32 × Int32 × Int32 × zH → Option (Int64 × zH) := zfix (fun r20 s => F_Pa_chanceOfFew_L20 n E S r20 s.1 s.2.1 s.2.2.1 s.2.2.2.1 s.2.2.2.2.1 s.2.2.2.2.2) n
def F_Pa_chanceOfFew (n : Nat) (E : zE) (S : zS) (a0 : Nat) (x1 : Int32) (x2 : Int32) (x3 : Int32) (M : zH) : Option (Int64 × zH) :=
  (zgR S a0 4 7).bind fun b18 =>
  (F_Ja_fillJ n E S b18 0 M).bind fun q19 =>
  (zstJ S q19 b18 0 1000000000000).bind fun m20 =>
  F_Pa_chanceOfFew_b20 n E S (a0, x1, x2, x3, 0, m20)
theorem K_Pa_chanceOfFew_b65 (n : Nat) (E : zE) (S : zS) (r20 : Nat × Int32 × Int32 × Int32 × Int32 × zH → Option (Int64 × zH)) (r35 : Nat × Int32 × Int32 × Int32 × Int32 × Int32 × zH → Option (Int64 × zH)) (a0 : Nat) (x1 : Int32) (x2 : Int32) (x3 : Int32) (x4 : Int32) (x5 : Int32) (t0 : Int64) (M : zH) (r : Int64) (M' : zH) (hr20 : ∀ (a0 : Nat) (x1 : Int32) (x2 : Int32) (x3 : Int32) (x4 : Int32) (M : zH), r20 (a0, x1, x2, x3, x4, M) = some (r, M') → zG E Y_Pa_chanceOfFew (some (.long r), S, M') 20 [(0, .ref a0), (1, .int x1), (2, .int x2), (3, .int x3), (4, .int x4)] [] S M 0 0) (hr35 : ∀ (a0 : Nat) (x1 : Int32) (x2 : Int32) (x3 : Int32) (x4 : Int32) (x5 : Int32) (M : zH), r35 (a0, x1, x2, x3, x4, x5, M) = some (r, M') → zG E Y_Pa_chanceOfFew (some (.long r), S, M') 35 [(0, .ref a0), (1, .int x1), (2, .int x2), (3, .int x3), (4, .int x4), (5, .int x5)] [] S M 0 0) (h : F_Pa_chanceOfFew_b65 n E S r20 r35 a0 x1 x2 x3 x4 x5 t0 M = some (r, M')) : zG E Y_Pa_chanceOfFew (some (.long r), S, M') 65 [(0, .ref a0), (1, .int x1), (2, .int x2), (3, .int x3), (4, .int x4), (5, .int x5)] [.long t0] S M 0 0 := by
  unfold F_Pa_chanceOfFew_b65 at h
  refine zi_lstore [(6, .long t0), (0, .ref a0), (1, .int x1), (2, .int x2), (3, .int x3), (4, .int x4), (5, .int x5)] d_Pa_chanceOfFew_65 (by decide) rfl ?_
  refine zi_aload_n 1 d_Pa_chanceOfFew_67 rfl ?_
  obtain ⟨b1, eb1, h⟩ := zbind h
  refine zo_getR 71 zkd_4 7 d_Pa_chanceOfFew_68 eb1 rfl tw_305 rfl ?_
  refine zi_iload 6 d_Pa_chanceOfFew_71 rfl ?_
  refine zi_aload_n 1 d_Pa_chanceOfFew_73 rfl ?_
  refine zo_getR 77 zkd_4 7 d_Pa_chanceOfFew_74 eb1 rfl tw_305 rfl ?_
  refine zi_iload 6 d_Pa_chanceOfFew_77 rfl ?_
  obtain ⟨v2, ev2, h⟩ := zbind h
  refine zo_lald 80 d_Pa_chanceOfFew_79 ev2 rfl ?_
  refine zi_bipush 10 d_Pa_chanceOfFew_80 rfl ?_
  refine zi_iload_n 4 d_Pa_chanceOfFew_82 rfl ?_
  refine zi_isub d_Pa_chanceOfFew_83 ?_
  refine zi_i2l d_Pa_chanceOfFew_84 ?_
  refine zi_lmul d_Pa_chanceOfFew_85 ?_
  refine zi_ldc2 d_Pa_chanceOfFew_86 tw_1146 ?_
  obtain ⟨v3, ev3, h⟩ := zbind h
  refine zo_ldiv 90 d_Pa_chanceOfFew_89 ev3 rfl ?_
  refine zi_lload 0 d_Pa_chanceOfFew_90 rfl ?_
  refine zi_ladd d_Pa_chanceOfFew_92 ?_
  obtain ⟨m4, em4, h⟩ := zbind h
  refine zo_last 94 d_Pa_chanceOfFew_93 em4 rfl ?_
  refine zi_iinc 6 (x5 + (-1)) [(5, .int (x5 + (-1))), (6, .long t0), (0, .ref a0), (1, .int x1), (2, .int x2), (3, .int x3), (4, .int x4)] d_Pa_chanceOfFew_94 rfl rfl (by decide) rfl ?_
  refine zi_goto (tgt := 35) d_Pa_chanceOfFew_97 rfl ?_
  refine zi_lo [(0, .ref a0), (1, .int x1), (2, .int x2), (3, .int x3), (4, .int x4), (5, .int (x5 + (-1)))] [2, 3, 4, 5, 6, 0] rfl ?_
  exact hr35 a0 x1 x2 x3 x4 (x5 + (-1)) m4 h
theorem K_Pa_chanceOfFew_L35 (n : Nat) (E : zE) (S : zS) (r20 : Nat × Int32 × Int32 × Int32 × Int32 × zH → Option (Int64 × zH)) (r35 : Nat × Int32 × Int32 × Int32 × Int32 × Int32 × zH → Option (Int64 × zH)) (a0 : Nat) (x1 : Int32) (x2 : Int32) (x3 : Int32) (x4 : Int32) (x5 : Int32) (M : zH) (r : Int64) (M' : zH) (hr20 : ∀ (a0 : Nat) (x1 : Int32) (x2 : Int32) (x3 : Int32) (x4 : Int32) (M : zH), r20 (a0, x1, x2, x3, x4, M) = some (r, M') → zG E Y_Pa_chanceOfFew (some (.long r), S, M') 20 [(0, .ref a0), (1, .int x1), (2, .int x2), (3, .int x3), (4, .int x4)] [] S M 0 0) (hr35 : ∀ (a0 : Nat) (x1 : Int32) (x2 : Int32) (x3 : Int32) (x4 : Int32) (x5 : Int32) (M : zH), r35 (a0, x1, x2, x3, x4, x5, M) = some (r, M') → zG E Y_Pa_chanceOfFew (some (.long r), S, M') 35 [(0, .ref a0), (1, .int x1), (2, .int x2), (3, .int x3), (4, .int x4), (5, .int x5)] [] S M 0 0) (h : F_Pa_chanceOfFew_L35 n E S r20 r35 a0 x1 x2 x3 x4 x5 M = some (r, M')) : zG E Y_Pa_chanceOfFew (some (.long r), S, M') 35 [(0, .ref a0), (1, .int x1), (2, .int x2), (3, .int x3), (4, .int x4), (5, .int x5)] [] S M 0 0 := by
  unfold F_Pa_chanceOfFew_L35 at h
  refine zi_iload 5 d_Pa_chanceOfFew_35 rfl ?_
  refine zi_if_lt (tgt := 100) d_Pa_chanceOfFew_37 rfl (fun c5 => ?_) (fun c5 => ?_)
  · rw [if_pos c5] at h
    refine zi_iinc 4 (x4 + 1) [(4, .int (x4 + 1)), (0, .ref a0), (1, .int x1), (2, .int x2), (3, .int x3), (5, .int x5)] d_Pa_chanceOfFew_100 rfl rfl (by decide) rfl ?_
    refine zi_goto (tgt := 20) d_Pa_chanceOfFew_103 rfl ?_
    refine zi_lo [(0, .ref a0), (1, .int x1), (2, .int x2), (3, .int x3), (4, .int (x4 + 1))] [1, 2, 3, 4, 0] rfl ?_
    exact hr20 a0 x1 x2 x3 (x4 + 1) M h
  · rw [if_neg c5] at h
    refine zi_iload 5 d_Pa_chanceOfFew_40 rfl ?_
    refine zi_if_le (tgt := 64) d_Pa_chanceOfFew_42 rfl (fun c6 => ?_) (fun c6 => ?_)
    · rw [if_pos c6] at h
      refine zi_lconst 0 d_Pa_chanceOfFew_64 rfl ?_
      refine zi_lo [(0, .ref a0), (1, .int x1), (2, .int x2), (3, .int x3), (4, .int x4), (5, .int x5)] [0, 1, 2, 3, 4, 5] rfl ?_
      exact K_Pa_chanceOfFew_b65 n E S r20 r35 a0 x1 x2 x3 x4 x5 0 M r M' hr20 hr35 h
    · rw [if_neg c6] at h
      refine zi_aload_n 0 d_Pa_chanceOfFew_45 rfl ?_
      obtain ⟨b7, eb7, h⟩ := zbind h
      refine zo_getR 49 zkd_4 7 d_Pa_chanceOfFew_46 eb7 rfl tw_305 rfl ?_
      refine zi_iload 5 d_Pa_chanceOfFew_49 rfl ?_
      refine zi_iconst 1 d_Pa_chanceOfFew_51 rfl ?_
      refine zi_isub d_Pa_chanceOfFew_52 ?_
      obtain ⟨v8, ev8, h⟩ := zbind h
      refine zo_lald 54 d_Pa_chanceOfFew_53 ev8 rfl ?_
      refine zi_iload_n 3 d_Pa_chanceOfFew_54 rfl ?_
      refine zi_i2l d_Pa_chanceOfFew_55 ?_
      refine zi_lmul d_Pa_chanceOfFew_56 ?_
      refine zi_ldc2 d_Pa_chanceOfFew_57 tw_1146 ?_
      obtain ⟨v9, ev9, h⟩ := zbind h
      refine zo_ldiv 61 d_Pa_chanceOfFew_60 ev9 rfl ?_
      refine zi_goto (tgt := 65) d_Pa_chanceOfFew_61 rfl ?_
      refine zi_lo [(0, .ref a0), (1, .int x1), (2, .int x2), (3, .int x3), (4, .int x4), (5, .int x5)] [0, 1, 2, 3, 4, 5] rfl ?_
      exact K_Pa_chanceOfFew_b65 n E S r20 r35 a0 x1 x2 x3 x4 x5 v9 M r M' hr20 hr35 h
theorem K_Pa_chanceOfFew_b35 (n : Nat) (E : zE) (S : zS) (r20 : Nat × Int32 × Int32 × Int32 × Int32 × zH → Option (Int64 × zH)) (a0 : Nat) (x1 : Int32) (x2 : Int32) (x3 : Int32) (x4 : Int32) (x5 : Int32) (M : zH) (r : Int64) (M' : zH) (hr20 : ∀ (a0 : Nat) (x1 : Int32) (x2 : Int32) (x3 : Int32) (x4 : Int32) (M : zH), r20 (a0, x1, x2, x3, x4, M) = some (r, M') → zG E Y_Pa_chanceOfFew (some (.long r), S, M') 20 [(0, .ref a0), (1, .int x1), (2, .int x2), (3, .int x3), (4, .int x4)] [] S M 0 0) (h : F_Pa_chanceOfFew_b35 n E S r20 (a0, x1, x2, x3, x4, x5, M) = some (r, M')) : zG E Y_Pa_chanceOfFew (some (.long r), S, M') 35 [(0, .ref a0), (1, .int x1), (2, .int x2), (3, .int x3), (4, .int x4), (5, .int x5)] [] S M 0 0 := by
  have key : ∀ (k : Nat) (a0 : Nat) (x1 : Int32) (x2 : Int32) (x3 : Int32) (x4 : Int32) (x5 : Int32) (M : zH), zfix (fun r35 s => F_Pa_chanceOfFew_L35 n E S r20 r35 s.1 s.2.1 s.2.2.1 s.2.2.2.1 s.2.2.2.2.1 s.2.2.2.2.2.1 s.2.2.2.2.2.2) k (a0, x1, x2, x3, x4, x5, M) = some (r, M') → zG E Y_Pa_chanceOfFew (some (.long r), S, M') 35 [(0, .ref a0), (1, .int x1), (2, .int x2), (3, .int x3), (4, .int x4), (5, .int x5)] [] S M 0 0 := by
    intro k
    induction k with
    | zero => intro a0 x1 x2 x3 x4 x5 M h; cases h
    | succ k ih => intro a0 x1 x2 x3 x4 x5 M h; exact K_Pa_chanceOfFew_L35 n E S r20 _ a0 x1 x2 x3 x4 x5 M r M' hr20 (fun a0 x1 x2 x3 x4 x5 M h => ih a0 x1 x2 x3 x4 x5 M h) h
  exact key n a0 x1 x2 x3 x4 x5 M h
theorem K_Pa_chanceOfFew_L112 (n : Nat) (E : zE) (S : zS) (r112 : Nat × Int32 × Int64 × Int32 × zH → Option (Int64 × zH)) (a0 : Nat) (x1 : Int32) (y4 : Int64) (x6 : Int32) (M : zH) (r : Int64) (M' : zH) (hr112 : ∀ (a0 : Nat) (x1 : Int32) (y4 : Int64) (x6 : Int32) (M : zH), r112 (a0, x1, y4, x6, M) = some (r, M') → zG E Y_Pa_chanceOfFew (some (.long r), S, M') 112 [(0, .ref a0), (1, .int x1), (4, .long y4), (6, .int x6)] [] S M 0 0) (h : F_Pa_chanceOfFew_L112 n E S r112 a0 x1 y4 x6 M = some (r, M')) : zG E Y_Pa_chanceOfFew (some (.long r), S, M') 112 [(0, .ref a0), (1, .int x1), (4, .long y4), (6, .int x6)] [] S M 0 0 := by
  unfold F_Pa_chanceOfFew_L112 at h
  refine zi_iload 3 d_Pa_chanceOfFew_112 rfl ?_
  refine zi_iload_n 1 d_Pa_chanceOfFew_114 rfl ?_
  refine zi_icmp_ge (tgt := 146) d_Pa_chanceOfFew_115 rfl (fun c10 => ?_) (fun c10 => ?_)
  · rw [if_pos c10] at h
    refine zi_lload 2 d_Pa_chanceOfFew_146 rfl ?_
    cases h
    exact zo_ret d_Pa_chanceOfFew_148 (Nat.le_of_ble_eq_true rfl) (Nat.le_of_ble_eq_true rfl) rfl
  · rw [if_neg c10] at h
    refine zi_iload 3 d_Pa_chanceOfFew_118 rfl ?_
    refine zi_aload_n 0 d_Pa_chanceOfFew_120 rfl ?_
    obtain ⟨b11, eb11, h⟩ := zbind h
    refine zo_getR 124 zkd_4 7 d_Pa_chanceOfFew_121 eb11 rfl tw_305 rfl ?_
    obtain ⟨v12, ev12, h⟩ := zbind h
    refine zo_alen 125 d_Pa_chanceOfFew_124 ev12 (by decide) rfl ?_
    refine zi_icmp_ge (tgt := 146) d_Pa_chanceOfFew_125 rfl (fun c13 => ?_) (fun c13 => ?_)
    · rw [if_pos c13] at h
      refine zi_lload 2 d_Pa_chanceOfFew_146 rfl ?_
      cases h
      exact zo_ret d_Pa_chanceOfFew_148 (Nat.le_of_ble_eq_true rfl) (Nat.le_of_ble_eq_true rfl) rfl
    · rw [if_neg c13] at h
      refine zi_lload 2 d_Pa_chanceOfFew_128 rfl ?_
      refine zi_aload_n 0 d_Pa_chanceOfFew_130 rfl ?_
      refine zo_getR 134 zkd_4 7 d_Pa_chanceOfFew_131 eb11 rfl tw_305 rfl ?_
      refine zi_iload 3 d_Pa_chanceOfFew_134 rfl ?_
      obtain ⟨v14, ev14, h⟩ := zbind h
      refine zo_lald 137 d_Pa_chanceOfFew_136 ev14 rfl ?_
      refine zi_ladd d_Pa_chanceOfFew_137 ?_
      refine zi_lstore [(4, .long (y4 + v14)), (0, .ref a0), (1, .int x1), (6, .int x6)] d_Pa_chanceOfFew_138 (by decide) rfl ?_
      refine zi_iinc 3 (x6 + 1) [(6, .int (x6 + 1)), (4, .long (y4 + v14)), (0, .ref a0), (1, .int x1)] d_Pa_chanceOfFew_140 rfl rfl (by decide) rfl ?_
      refine zi_goto (tgt := 112) d_Pa_chanceOfFew_143 rfl ?_
      refine zi_lo [(0, .ref a0), (1, .int x1), (4, .long (y4 + v14)), (6, .int (x6 + 1))] [2, 3, 1, 0] rfl ?_
      exact hr112 a0 x1 (y4 + v14) (x6 + 1) M h
theorem K_Pa_chanceOfFew_b112 (n : Nat) (E : zE) (S : zS) (a0 : Nat) (x1 : Int32) (y4 : Int64) (x6 : Int32) (M : zH) (r : Int64) (M' : zH)  (h : F_Pa_chanceOfFew_b112 n E S (a0, x1, y4, x6, M) = some (r, M')) : zG E Y_Pa_chanceOfFew (some (.long r), S, M') 112 [(0, .ref a0), (1, .int x1), (4, .long y4), (6, .int x6)] [] S M 0 0 := by
  have key : ∀ (k : Nat) (a0 : Nat) (x1 : Int32) (y4 : Int64) (x6 : Int32) (M : zH), zfix (fun r112 s => F_Pa_chanceOfFew_L112 n E S r112 s.1 s.2.1 s.2.2.1 s.2.2.2.1 s.2.2.2.2) k (a0, x1, y4, x6, M) = some (r, M') → zG E Y_Pa_chanceOfFew (some (.long r), S, M') 112 [(0, .ref a0), (1, .int x1), (4, .long y4), (6, .int x6)] [] S M 0 0 := by
    intro k
    induction k with
    | zero => intro a0 x1 y4 x6 M h; cases h
    | succ k ih => intro a0 x1 y4 x6 M h; exact K_Pa_chanceOfFew_L112 n E S _ a0 x1 y4 x6 M r M'  (fun a0 x1 y4 x6 M h => ih a0 x1 y4 x6 M h) h
  exact key n a0 x1 y4 x6 M h
theorem K_Pa_chanceOfFew_L20 (n : Nat) (E : zE) (S : zS) (r20 : Nat × Int32 × Int32 × Int32 × Int32 × zH → Option (Int64 × zH)) (a0 : Nat) (x1 : Int32) (x2 : Int32) (x3 : Int32) (x4 : Int32) (M : zH) (r : Int64) (M' : zH) (hr20 : ∀ (a0 : Nat) (x1 : Int32) (x2 : Int32) (x3 : Int32) (x4 : Int32) (M : zH), r20 (a0, x1, x2, x3, x4, M) = some (r, M') → zG E Y_Pa_chanceOfFew (some (.long r), S, M') 20 [(0, .ref a0), (1, .int x1), (2, .int x2), (3, .int x3), (4, .int x4)] [] S M 0 0) (h : F_Pa_chanceOfFew_L20 n E S r20 a0 x1 x2 x3 x4 M = some (r, M')) : zG E Y_Pa_chanceOfFew (some (.long r), S, M') 20 [(0, .ref a0), (1, .int x1), (2, .int x2), (3, .int x3), (4, .int x4)] [] S M 0 0 := by
  unfold F_Pa_chanceOfFew_L20 at h
  refine zi_iload 4 d_Pa_chanceOfFew_20 rfl ?_
  refine zi_iload_n 2 d_Pa_chanceOfFew_22 rfl ?_
  refine zi_icmp_ge (tgt := 106) d_Pa_chanceOfFew_23 rfl (fun c15 => ?_) (fun c15 => ?_)
  · rw [if_pos c15] at h
    refine zi_lconst 0 d_Pa_chanceOfFew_106 rfl ?_
    refine zi_lstore [(4, .long 0), (0, .ref a0), (1, .int x1), (2, .int x2), (3, .int x3)] d_Pa_chanceOfFew_107 (by decide) rfl ?_
    refine zi_iconst 0 d_Pa_chanceOfFew_109 rfl ?_
    refine zi_istore [(6, .int 0), (4, .long 0), (0, .ref a0), (1, .int x1), (2, .int x2), (3, .int x3)] d_Pa_chanceOfFew_110 (by decide) rfl ?_
    refine zi_lo [(0, .ref a0), (1, .int x1), (4, .long 0), (6, .int 0)] [2, 3, 1, 0] rfl ?_
    exact K_Pa_chanceOfFew_b112 n E S a0 x1 0 0 M r M'  h
  · rw [if_neg c15] at h
    refine zi_aload_n 0 d_Pa_chanceOfFew_26 rfl ?_
    obtain ⟨b16, eb16, h⟩ := zbind h
    refine zo_getR 30 zkd_4 7 d_Pa_chanceOfFew_27 eb16 rfl tw_305 rfl ?_
    obtain ⟨v17, ev17, h⟩ := zbind h
    refine zo_alen 31 d_Pa_chanceOfFew_30 ev17 (by decide) rfl ?_
    refine zi_iconst 1 d_Pa_chanceOfFew_31 rfl ?_
    refine zi_isub d_Pa_chanceOfFew_32 ?_
    refine zi_istore [(5, .int (v17 - 1)), (0, .ref a0), (1, .int x1), (2, .int x2), (3, .int x3), (4, .int x4)] d_Pa_chanceOfFew_33 (by decide) rfl ?_
    refine zi_lo [(0, .ref a0), (1, .int x1), (2, .int x2), (3, .int x3), (4, .int x4), (5, .int (v17 - 1))] [1, 2, 3, 4, 5, 0] rfl ?_
    exact K_Pa_chanceOfFew_b35 n E S r20 a0 x1 x2 x3 x4 (v17 - 1) M r M' hr20 h
theorem K_Pa_chanceOfFew_b20 (n : Nat) (E : zE) (S : zS) (a0 : Nat) (x1 : Int32) (x2 : Int32) (x3 : Int32) (x4 : Int32) (M : zH) (r : Int64) (M' : zH)  (h : F_Pa_chanceOfFew_b20 n E S (a0, x1, x2, x3, x4, M) = some (r, M')) : zG E Y_Pa_chanceOfFew (some (.long r), S, M') 20 [(0, .ref a0), (1, .int x1), (2, .int x2), (3, .int x3), (4, .int x4)] [] S M 0 0 := by
  have key : ∀ (k : Nat) (a0 : Nat) (x1 : Int32) (x2 : Int32) (x3 : Int32) (x4 : Int32) (M : zH), zfix (fun r20 s => F_Pa_chanceOfFew_L20 n E S r20 s.1 s.2.1 s.2.2.1 s.2.2.2.1 s.2.2.2.2.1 s.2.2.2.2.2) k (a0, x1, x2, x3, x4, M) = some (r, M') → zG E Y_Pa_chanceOfFew (some (.long r), S, M') 20 [(0, .ref a0), (1, .int x1), (2, .int x2), (3, .int x3), (4, .int x4)] [] S M 0 0 := by
    intro k
    induction k with
    | zero => intro a0 x1 x2 x3 x4 M h; cases h
    | succ k ih => intro a0 x1 x2 x3 x4 M h; exact K_Pa_chanceOfFew_L20 n E S _ a0 x1 x2 x3 x4 M r M'  (fun a0 x1 x2 x3 x4 M h => ih a0 x1 x2 x3 x4 M h) h
  exact key n a0 x1 x2 x3 x4 M h
theorem K_Pa_chanceOfFew (n : Nat) (E : zE) (S : zS) (a0 : Nat) (x1 : Int32) (x2 : Int32) (x3 : Int32) (M : zH) (r : Int64) (M' : zH)  (h : F_Pa_chanceOfFew n E S a0 x1 x2 x3 M = some (r, M')) : zG E Y_Pa_chanceOfFew (some (.long r), S, M') 0 [(0, .ref a0), (1, .int x1), (2, .int x2), (3, .int x3)] [] S M 0 0 := by
  unfold F_Pa_chanceOfFew at h
  refine zi_aload_n 0 d_Pa_chanceOfFew_0 rfl ?_
  obtain ⟨b18, eb18, h⟩ := zbind h
  refine zo_getR 4 zkd_4 7 d_Pa_chanceOfFew_1 eb18 rfl tw_305 rfl ?_
  refine zi_lconst 0 d_Pa_chanceOfFew_4 rfl ?_
  obtain ⟨q19, eq19, h⟩ := zbind h
  refine zo_stat (k' := 0) (n' := 0) 8 [.ref b18, .long 0] [] [] (C_Ja_fillJ n E S b18 0 M q19 eq19) d_Pa_chanceOfFew_5 tw_1144 tw_1142 tw_1143 tw_3 dd_Ja_fillJ ⟨Nat.le_of_ble_eq_true rfl, Nat.le_of_ble_eq_true rfl, Nat.le_of_ble_eq_true rfl, Nat.le_of_ble_eq_true rfl⟩ (Nat.le_of_ble_eq_true rfl) rfl rfl rfl rfl ?_
  refine zi_aload_n 0 d_Pa_chanceOfFew_8 rfl ?_
  refine zo_getR 12 zkd_4 7 d_Pa_chanceOfFew_9 eb18 rfl tw_305 rfl ?_
  refine zi_iconst 0 d_Pa_chanceOfFew_12 rfl ?_
  refine zi_ldc2 d_Pa_chanceOfFew_13 tw_1145 ?_
  obtain ⟨m20, em20, h⟩ := zbind h
  refine zo_last 17 d_Pa_chanceOfFew_16 em20 rfl ?_
  refine zi_iconst 0 d_Pa_chanceOfFew_17 rfl ?_
  refine zi_istore [(4, .int 0), (0, .ref a0), (1, .int x1), (2, .int x2), (3, .int x3)] d_Pa_chanceOfFew_18 (by decide) rfl ?_
  refine zi_lo [(0, .ref a0), (1, .int x1), (2, .int x2), (3, .int x3), (4, .int 0)] [1, 2, 3, 4, 0] rfl ?_
  exact K_Pa_chanceOfFew_b20 n E S a0 x1 x2 x3 0 m20 r M'  h
theorem C_Pa_chanceOfFew (n : Nat) (E : zE) (S : zS) (a0 : Nat) (x1 : Int32) (x2 : Int32) (x3 : Int32) (M : zH) (r : Int64) (M' : zH) (h : F_Pa_chanceOfFew n E S a0 x1 x2 x3 M = some (r, M')) : zC E Y_Pa_chanceOfFew [.ref a0, .int x1, .int x2, .int x3] S M (some (.long r), S, M') :=
  zC.of (Or.inl (show plainName "NightColander$Paper" = true by decide)) (Nat.le_of_ble_eq_true rfl) (trivial) (K_Pa_chanceOfFew n E S a0 x1 x2 x3 M r M' h)
theorem d_NC_few_0 : decode (yB Y_NC_few) 0 = .ok (.iload_n 1, 1) := by decide +kernel
theorem d_NC_few_1 : decode (yB Y_NC_few) 1 = .ok (.iconst 1, 1) := by decide +kernel
theorem d_NC_few_2 : decode (yB Y_NC_few) 2 = .ok (.bipush 20, 2) := by decide +kernel
theorem d_NC_few_4 : decode (yB Y_NC_few) 4 = .ok (.invokestatic 132, 3) := by decide +kernel
theorem d_NC_few_7 : decode (yB Y_NC_few) 7 = .ok (.ifCond .eq 13, 3) := by decide +kernel
theorem d_NC_few_10 : decode (yB Y_NC_few) 10 = .ok (.iload_n 2, 1) := by decide +kernel
theorem d_NC_few_11 : decode (yB Y_NC_few) 11 = .ok (.iconst 0, 1) := by decide +kernel
theorem d_NC_few_12 : decode (yB Y_NC_few) 12 = .ok (.bipush 99, 2) := by decide +kernel
theorem d_NC_few_14 : decode (yB Y_NC_few) 14 = .ok (.invokestatic 132, 3) := by decide +kernel
theorem d_NC_few_17 : decode (yB Y_NC_few) 17 = .ok (.ifCond .ne 7, 3) := by decide +kernel
theorem d_NC_few_20 : decode (yB Y_NC_few) 20 = .ok (.ldc2_w 304, 3) := by decide +kernel
theorem d_NC_few_23 : decode (yB Y_NC_few) 23 = .ok (.lreturn, 1) := by decide +kernel
theorem d_NC_few_24 : decode (yB Y_NC_few) 24 = .ok (.aload_n 0, 1) := by decide +kernel
theorem d_NC_few_25 : decode (yB Y_NC_few) 25 = .ok (.getfield 86, 3) := by decide +kernel
theorem d_NC_few_28 : decode (yB Y_NC_few) 28 = .ok (.iload_n 1, 1) := by decide +kernel
theorem d_NC_few_29 : decode (yB Y_NC_few) 29 = .ok (.iload_n 2, 1) := by decide +kernel
theorem d_NC_few_30 : decode (yB Y_NC_few) 30 = .ok (.aload_n 0, 1) := by decide +kernel
theorem d_NC_few_31 : decode (yB Y_NC_few) 31 = .ok (.getfield 12, 3) := by decide +kernel
theorem d_NC_few_34 : decode (yB Y_NC_few) 34 = .ok (.getfield 192, 3) := by decide +kernel
theorem d_NC_few_37 : decode (yB Y_NC_few) 37 = .ok (.iconst 3, 1) := by decide +kernel
theorem d_NC_few_38 : decode (yB Y_NC_few) 38 = .ok (.iaload, 1) := by decide +kernel
theorem d_NC_few_39 : decode (yB Y_NC_few) 39 = .ok (.invokevirtual 306, 3) := by decide +kernel
theorem d_NC_few_42 : decode (yB Y_NC_few) 42 = .ok (.lreturn, 1) := by decide +kernel
def F_NC_few_b20 (n : Nat) (E : zE) (S : zS)  (M : zH) : Option (Int64 × zH) :=
  some ((-1), M)
def F_NC_few (n : Nat) (E : zE) (S : zS) (a0 : Nat) (x1 : Int32) (x2 : Int32) (M : zH) : Option (Int64 × zH) :=
  (F_NC_within n E S x1 1 20 M).bind fun q1 =>
  if q1.1 = true then
    (F_NC_within n E S x2 0 99 q1.2).bind fun q3 =>
    if q3.1 = true then
      (zgR S a0 10 12).bind fun b5 =>
      (zgR S a0 10 0).bind fun b6 =>
      (zgR S b6 3 9).bind fun b7 =>
      (zldI S q3.2 b7 3).bind fun v8 =>
      (zck S b5 4).bind fun u9 =>
      (F_Pa_chanceOfFew n E S b5 x1 x2 v8 q3.2).bind fun q10 =>
      some (q10.1, q10.2)
    else
      F_NC_few_b20 n E S  q3.2
  else
    F_NC_few_b20 n E S  q1.2
theorem K_NC_few_b20 (n : Nat) (E : zE) (S : zS)  (M : zH) (r : Int64) (M' : zH)  (h : F_NC_few_b20 n E S  M = some (r, M')) : zG E Y_NC_few (some (.long r), S, M') 20 [] [] S M 0 0 := by
  unfold F_NC_few_b20 at h
  refine zi_ldc2 d_NC_few_20 tw_1137 ?_
  cases h
  exact zo_ret d_NC_few_23 (Nat.le_of_ble_eq_true rfl) (Nat.le_of_ble_eq_true rfl) rfl
theorem K_NC_few (n : Nat) (E : zE) (S : zS) (a0 : Nat) (x1 : Int32) (x2 : Int32) (M : zH) (r : Int64) (M' : zH)  (h : F_NC_few n E S a0 x1 x2 M = some (r, M')) : zG E Y_NC_few (some (.long r), S, M') 0 [(0, .ref a0), (1, .int x1), (2, .int x2)] [] S M 0 0 := by
  unfold F_NC_few at h
  refine zi_iload_n 1 d_NC_few_0 rfl ?_
  refine zi_iconst 1 d_NC_few_1 rfl ?_
  refine zi_bipush 20 d_NC_few_2 rfl ?_
  obtain ⟨q1, eq1, h⟩ := zbind h
  refine zo_stat (k' := 0) (n' := 0) 7 [.int x1, .int 1, .int 20] [] [.int (bI q1.1)] (C_NC_within n E S x1 1 20 M q1.1 q1.2 eq1) d_NC_few_4 tw_399 tw_397 tw_398 tw_1 dd_NC_within ⟨Nat.le_of_ble_eq_true rfl, Nat.le_of_ble_eq_true rfl, Nat.le_of_ble_eq_true rfl, Nat.le_of_ble_eq_true rfl⟩ (Nat.le_of_ble_eq_true rfl) rfl rfl rfl rfl ?_
  refine zo_ifeqB d_NC_few_7 rfl 10 rfl (fun c2 => ?_) (fun c2 => ?_)
  · rw [if_neg c2] at h
    refine zi_lo [] [] rfl ?_
    exact K_NC_few_b20 n E S  q1.2 r M'  h
  · rw [if_pos c2] at h
    refine zi_iload_n 2 d_NC_few_10 rfl ?_
    refine zi_iconst 0 d_NC_few_11 rfl ?_
    refine zi_bipush 99 d_NC_few_12 rfl ?_
    obtain ⟨q3, eq3, h⟩ := zbind h
    refine zo_stat (k' := 0) (n' := 0) 17 [.int x2, .int 0, .int 99] [] [.int (bI q3.1)] (C_NC_within n E S x2 0 99 q1.2 q3.1 q3.2 eq3) d_NC_few_14 tw_399 tw_397 tw_398 tw_1 dd_NC_within ⟨Nat.le_of_ble_eq_true rfl, Nat.le_of_ble_eq_true rfl, Nat.le_of_ble_eq_true rfl, Nat.le_of_ble_eq_true rfl⟩ (Nat.le_of_ble_eq_true rfl) rfl rfl rfl rfl ?_
    refine zo_ifneB d_NC_few_17 rfl 20 rfl (fun c4 => ?_) (fun c4 => ?_)
    · rw [if_pos c4] at h
      refine zi_aload_n 0 d_NC_few_24 rfl ?_
      obtain ⟨b5, eb5, h⟩ := zbind h
      refine zo_getR 28 zkd_10 12 d_NC_few_25 eb5 rfl tw_344 rfl ?_
      refine zi_iload_n 1 d_NC_few_28 rfl ?_
      refine zi_iload_n 2 d_NC_few_29 rfl ?_
      refine zi_aload_n 0 d_NC_few_30 rfl ?_
      obtain ⟨b6, eb6, h⟩ := zbind h
      refine zo_getR 34 zkd_10 0 d_NC_few_31 eb6 rfl tw_332 rfl ?_
      obtain ⟨b7, eb7, h⟩ := zbind h
      refine zo_getR 37 zkd_3 9 d_NC_few_34 eb7 rfl tw_84 rfl ?_
      refine zi_iconst 3 d_NC_few_37 rfl ?_
      obtain ⟨v8, ev8, h⟩ := zbind h
      refine zo_iald 39 d_NC_few_38 ev8 rfl ?_
      obtain ⟨u9, eu9, h⟩ := zbind h
      obtain ⟨q10, eq10, h⟩ := zbind h
      refine zo_virt (k' := 0) (n' := 0) 42 [.int x1, .int x2, .int v8] [] [.long q10.1] zkd_4 (zck_s eu9) (C_Pa_chanceOfFew n E S b5 x1 x2 v8 q3.2 q10.1 q10.2 eq10) d_NC_few_39 tw_1141 tw_1138 tw_1139 tw_1140 tw_12 dd_Pa_chanceOfFew ⟨Nat.le_of_ble_eq_true rfl, Nat.le_of_ble_eq_true rfl, Nat.le_of_ble_eq_true rfl, Nat.le_of_ble_eq_true rfl⟩ (Nat.le_of_ble_eq_true rfl) rfl rfl rfl rfl ?_
      cases h
      exact zo_ret d_NC_few_42 (Nat.le_of_ble_eq_true rfl) (Nat.le_of_ble_eq_true rfl) rfl
    · rw [if_neg c4] at h
      refine zi_lo [] [] rfl ?_
      exact K_NC_few_b20 n E S  q3.2 r M'  h
theorem C_NC_few (n : Nat) (E : zE) (S : zS) (a0 : Nat) (x1 : Int32) (x2 : Int32) (M : zH) (r : Int64) (M' : zH) (h : F_NC_few n E S a0 x1 x2 M = some (r, M')) : zC E Y_NC_few [.ref a0, .int x1, .int x2] S M (some (.long r), S, M') :=
  zC.of (Or.inl (show plainName "NightColander" = true by decide)) (Nat.le_of_ble_eq_true rfl) (trivial) (K_NC_few n E S a0 x1 x2 M r M' h)
theorem d_Pa_worthBy_0 : decode (yB Y_Pa_worthBy) 0 = .ok (.aload_n 0, 1) := by decide +kernel
theorem d_Pa_worthBy_1 : decode (yB Y_Pa_worthBy) 1 = .ok (.getfield 12, 3) := by decide +kernel
theorem d_Pa_worthBy_4 : decode (yB Y_Pa_worthBy) 4 = .ok (.aload_n 1, 1) := by decide +kernel
theorem d_Pa_worthBy_5 : decode (yB Y_Pa_worthBy) 5 = .ok (.invokevirtual 53, 3) := by decide +kernel
theorem d_Pa_worthBy_8 : decode (yB Y_Pa_worthBy) 8 = .ok (.aload_n 0, 1) := by decide +kernel
theorem d_Pa_worthBy_9 : decode (yB Y_Pa_worthBy) 9 = .ok (.getfield 12, 3) := by decide +kernel
theorem d_Pa_worthBy_12 : decode (yB Y_Pa_worthBy) 12 = .ok (.iload_n 2, 1) := by decide +kernel
theorem d_Pa_worthBy_13 : decode (yB Y_Pa_worthBy) 13 = .ok (.putfield 189, 3) := by decide +kernel
theorem d_Pa_worthBy_16 : decode (yB Y_Pa_worthBy) 16 = .ok (.iconst 0, 1) := by decide +kernel
theorem d_Pa_worthBy_17 : decode (yB Y_Pa_worthBy) 17 = .ok (.istore_n 3, 1) := by decide +kernel
theorem d_Pa_worthBy_18 : decode (yB Y_Pa_worthBy) 18 = .ok (.iconst 0, 1) := by decide +kernel
theorem d_Pa_worthBy_19 : decode (yB Y_Pa_worthBy) 19 = .ok (.istore 4, 2) := by decide +kernel
theorem d_Pa_worthBy_21 : decode (yB Y_Pa_worthBy) 21 = .ok (.iload 4, 2) := by decide +kernel
theorem d_Pa_worthBy_23 : decode (yB Y_Pa_worthBy) 23 = .ok (.aload_n 0, 1) := by decide +kernel
theorem d_Pa_worthBy_24 : decode (yB Y_Pa_worthBy) 24 = .ok (.getfield 12, 3) := by decide +kernel
theorem d_Pa_worthBy_27 : decode (yB Y_Pa_worthBy) 27 = .ok (.getfield 77, 3) := by decide +kernel
theorem d_Pa_worthBy_30 : decode (yB Y_Pa_worthBy) 30 = .ok (.if_icmp .ge 46, 3) := by decide +kernel
theorem d_Pa_worthBy_33 : decode (yB Y_Pa_worthBy) 33 = .ok (.iload_n 3, 1) := by decide +kernel
theorem d_Pa_worthBy_34 : decode (yB Y_Pa_worthBy) 34 = .ok (.aload_n 0, 1) := by decide +kernel
theorem d_Pa_worthBy_35 : decode (yB Y_Pa_worthBy) 35 = .ok (.getfield 12, 3) := by decide +kernel
theorem d_Pa_worthBy_38 : decode (yB Y_Pa_worthBy) 38 = .ok (.getfield 97, 3) := by decide +kernel
theorem d_Pa_worthBy_41 : decode (yB Y_Pa_worthBy) 41 = .ok (.iload 4, 2) := by decide +kernel
theorem d_Pa_worthBy_43 : decode (yB Y_Pa_worthBy) 43 = .ok (.iaload, 1) := by decide +kernel
theorem d_Pa_worthBy_44 : decode (yB Y_Pa_worthBy) 44 = .ok (.aload_n 0, 1) := by decide +kernel
theorem d_Pa_worthBy_45 : decode (yB Y_Pa_worthBy) 45 = .ok (.getfield 45, 3) := by decide +kernel
theorem d_Pa_worthBy_48 : decode (yB Y_Pa_worthBy) 48 = .ok (.aload_n 0, 1) := by decide +kernel
theorem d_Pa_worthBy_49 : decode (yB Y_Pa_worthBy) 49 = .ok (.getfield 12, 3) := by decide +kernel
theorem d_Pa_worthBy_52 : decode (yB Y_Pa_worthBy) 52 = .ok (.iload 4, 2) := by decide +kernel
theorem d_Pa_worthBy_54 : decode (yB Y_Pa_worthBy) 54 = .ok (.aload_n 0, 1) := by decide +kernel
theorem d_Pa_worthBy_55 : decode (yB Y_Pa_worthBy) 55 = .ok (.getfield 12, 3) := by decide +kernel
theorem d_Pa_worthBy_58 : decode (yB Y_Pa_worthBy) 58 = .ok (.getfield 91, 3) := by decide +kernel
theorem d_Pa_worthBy_61 : decode (yB Y_Pa_worthBy) 61 = .ok (.iload 4, 2) := by decide +kernel
theorem d_Pa_worthBy_63 : decode (yB Y_Pa_worthBy) 63 = .ok (.iaload, 1) := by decide +kernel
theorem d_Pa_worthBy_64 : decode (yB Y_Pa_worthBy) 64 = .ok (.invokevirtual 192, 3) := by decide +kernel
theorem d_Pa_worthBy_67 : decode (yB Y_Pa_worthBy) 67 = .ok (.imul, 1) := by decide +kernel
theorem d_Pa_worthBy_68 : decode (yB Y_Pa_worthBy) 68 = .ok (.iadd, 1) := by decide +kernel
theorem d_Pa_worthBy_69 : decode (yB Y_Pa_worthBy) 69 = .ok (.istore_n 3, 1) := by decide +kernel
theorem d_Pa_worthBy_70 : decode (yB Y_Pa_worthBy) 70 = .ok (.iinc 4 1, 3) := by decide +kernel
theorem d_Pa_worthBy_73 : decode (yB Y_Pa_worthBy) 73 = .ok (.goto (-52), 3) := by decide +kernel
theorem d_Pa_worthBy_76 : decode (yB Y_Pa_worthBy) 76 = .ok (.iload_n 3, 1) := by decide +kernel
theorem d_Pa_worthBy_77 : decode (yB Y_Pa_worthBy) 77 = .ok (.ireturn, 1) := by decide +kernel
def F_Pa_worthBy_L21 (n : Nat) (E : zE) (S : zS) (r21 : Nat × Int32 × Int32 × zH → Option (Int32 × zH)) (a0 : Nat) (x3 : Int32) (x4 : Int32) (M : zH) : Option (Int32 × zH) :=
  (zgR S a0 4 1).bind fun b1 =>
  (zgI S M b1 3 11).bind fun v2 =>
  if v2 ≤ x4 then
    some (x3, M)
  else
    (zgR S b1 3 4).bind fun b4 =>
    (zldI S M b4 x4).bind fun v5 =>
    (zgR S a0 4 0).bind fun b6 =>
    (zgR S b1 3 5).bind fun b7 =>
    (zldI S M b7 x4).bind fun v8 =>
    (zck S b6 1).bind fun u9 =>
    (F_Ju_payOf n E S b6 b1 x4 v8 M).bind fun q10 =>
    r21 (a0, x3 + (v5 * q10.1), x4 + 1, q10.2)
def F_Pa_worthBy_b21 (n : Nat) (E : zE) (S : zS) : Nat × Int32 × Int32 × zH → Option (Int32 × zH) := zfix (fun r21 s => F_Pa_worthBy_L21 n E S r21 s.1 s.2.1 s.2.2.1 s.2.2.2) n
def F_Pa_worthBy (n : Nat) (E : zE) (S : zS) (a0 : Nat) (a1 : Nat) (x2 : Int32) (M : zH) : Option (Int32 × zH) :=
  (zgR S a0 4 1).bind fun b11 =>
  (zck S b11 3).bind fun u12 =>
  (F_Ni_copyFrom n E S b11 a1 M).bind fun q13 =>
  (zpI S q13 b11 3 14 x2).bind fun m14 =>
  F_Pa_worthBy_b21 n E S (a0, 0, 0, m14)
theorem K_Pa_worthBy_L21 (n : Nat) (E : zE) (S : zS) (r21 : Nat × Int32 × Int32 × zH → Option (Int32 × zH)) (a0 : Nat) (x3 : Int32) (x4 : Int32) (M : zH) (r : Int32) (M' : zH) (hr21 : ∀ (a0 : Nat) (x3 : Int32) (x4 : Int32) (M : zH), r21 (a0, x3, x4, M) = some (r, M') → zG E Y_Pa_worthBy (some (.int r), S, M') 21 [(0, .ref a0), (3, .int x3), (4, .int x4)] [] S M 0 0) (h : F_Pa_worthBy_L21 n E S r21 a0 x3 x4 M = some (r, M')) : zG E Y_Pa_worthBy (some (.int r), S, M') 21 [(0, .ref a0), (3, .int x3), (4, .int x4)] [] S M 0 0 := by
  unfold F_Pa_worthBy_L21 at h
  refine zi_iload 2 d_Pa_worthBy_21 rfl ?_
  refine zi_aload_n 0 d_Pa_worthBy_23 rfl ?_
  obtain ⟨b1, eb1, h⟩ := zbind h
  refine zo_getR 27 zkd_4 1 d_Pa_worthBy_24 eb1 rfl tw_299 rfl ?_
  obtain ⟨v2, ev2, h⟩ := zbind h
  refine zo_getI 30 zkd_3 11 d_Pa_worthBy_27 ev2 rfl tw_88 rfl ?_
  refine zi_icmp_ge (tgt := 76) d_Pa_worthBy_30 rfl (fun c3 => ?_) (fun c3 => ?_)
  · rw [if_pos c3] at h
    refine zi_iload_n 1 d_Pa_worthBy_76 rfl ?_
    cases h
    exact zo_ret d_Pa_worthBy_77 (Nat.le_of_ble_eq_true rfl) (Nat.le_of_ble_eq_true rfl) rfl
  · rw [if_neg c3] at h
    refine zi_iload_n 1 d_Pa_worthBy_33 rfl ?_
    refine zi_aload_n 0 d_Pa_worthBy_34 rfl ?_
    refine zo_getR 38 zkd_4 1 d_Pa_worthBy_35 eb1 rfl tw_299 rfl ?_
    obtain ⟨b4, eb4, h⟩ := zbind h
    refine zo_getR 41 zkd_3 4 d_Pa_worthBy_38 eb4 rfl tw_65 rfl ?_
    refine zi_iload 2 d_Pa_worthBy_41 rfl ?_
    obtain ⟨v5, ev5, h⟩ := zbind h
    refine zo_iald 44 d_Pa_worthBy_43 ev5 rfl ?_
    refine zi_aload_n 0 d_Pa_worthBy_44 rfl ?_
    obtain ⟨b6, eb6, h⟩ := zbind h
    refine zo_getR 48 zkd_4 0 d_Pa_worthBy_45 eb6 rfl tw_298 rfl ?_
    refine zi_aload_n 0 d_Pa_worthBy_48 rfl ?_
    refine zo_getR 52 zkd_4 1 d_Pa_worthBy_49 eb1 rfl tw_299 rfl ?_
    refine zi_iload 2 d_Pa_worthBy_52 rfl ?_
    refine zi_aload_n 0 d_Pa_worthBy_54 rfl ?_
    refine zo_getR 58 zkd_4 1 d_Pa_worthBy_55 eb1 rfl tw_299 rfl ?_
    obtain ⟨b7, eb7, h⟩ := zbind h
    refine zo_getR 61 zkd_3 5 d_Pa_worthBy_58 eb7 rfl tw_72 rfl ?_
    refine zi_iload 2 d_Pa_worthBy_61 rfl ?_
    obtain ⟨v8, ev8, h⟩ := zbind h
    refine zo_iald 64 d_Pa_worthBy_63 ev8 rfl ?_
    obtain ⟨u9, eu9, h⟩ := zbind h
    obtain ⟨q10, eq10, h⟩ := zbind h
    refine zo_virt (k' := 0) (n' := 0) 67 [.ref b1, .int x4, .int v8] [.int v5, .int x3] [.int q10.1, .int v5, .int x3] zkd_1 (zck_s eu9) (C_Ju_payOf n E S b6 b1 x4 v8 M q10.1 q10.2 eq10) d_Pa_worthBy_64 tw_494 tw_1155 tw_492 tw_493 tw_8 dd_Ju_payOf ⟨Nat.le_of_ble_eq_true rfl, Nat.le_of_ble_eq_true rfl, Nat.le_of_ble_eq_true rfl, Nat.le_of_ble_eq_true rfl⟩ (Nat.le_of_ble_eq_true rfl) rfl rfl rfl rfl ?_
    refine zi_imul d_Pa_worthBy_67 ?_
    refine zi_iadd d_Pa_worthBy_68 ?_
    refine zi_istore_n [(3, .int (x3 + (v5 * q10.1))), (0, .ref a0), (4, .int x4)] d_Pa_worthBy_69 (by decide) rfl ?_
    refine zi_iinc 2 (x4 + 1) [(4, .int (x4 + 1)), (3, .int (x3 + (v5 * q10.1))), (0, .ref a0)] d_Pa_worthBy_70 rfl rfl (by decide) rfl ?_
    refine zi_goto (tgt := 21) d_Pa_worthBy_73 rfl ?_
    refine zi_lo [(0, .ref a0), (3, .int (x3 + (v5 * q10.1))), (4, .int (x4 + 1))] [2, 1, 0] rfl ?_
    exact hr21 a0 (x3 + (v5 * q10.1)) (x4 + 1) q10.2 h
theorem K_Pa_worthBy_b21 (n : Nat) (E : zE) (S : zS) (a0 : Nat) (x3 : Int32) (x4 : Int32) (M : zH) (r : Int32) (M' : zH)  (h : F_Pa_worthBy_b21 n E S (a0, x3, x4, M) = some (r, M')) : zG E Y_Pa_worthBy (some (.int r), S, M') 21 [(0, .ref a0), (3, .int x3), (4, .int x4)] [] S M 0 0 := by
  have key : ∀ (k : Nat) (a0 : Nat) (x3 : Int32) (x4 : Int32) (M : zH), zfix (fun r21 s => F_Pa_worthBy_L21 n E S r21 s.1 s.2.1 s.2.2.1 s.2.2.2) k (a0, x3, x4, M) = some (r, M') → zG E Y_Pa_worthBy (some (.int r), S, M') 21 [(0, .ref a0), (3, .int x3), (4, .int x4)] [] S M 0 0 := by
    intro k
    induction k with
    | zero => intro a0 x3 x4 M h; cases h
    | succ k ih => intro a0 x3 x4 M h; exact K_Pa_worthBy_L21 n E S _ a0 x3 x4 M r M'  (fun a0 x3 x4 M h => ih a0 x3 x4 M h) h
  exact key n a0 x3 x4 M h
theorem K_Pa_worthBy (n : Nat) (E : zE) (S : zS) (a0 : Nat) (a1 : Nat) (x2 : Int32) (M : zH) (r : Int32) (M' : zH)  (h : F_Pa_worthBy n E S a0 a1 x2 M = some (r, M')) : zG E Y_Pa_worthBy (some (.int r), S, M') 0 [(0, .ref a0), (1, .ref a1), (2, .int x2)] [] S M 0 0 := by
  unfold F_Pa_worthBy at h
  refine zi_aload_n 0 d_Pa_worthBy_0 rfl ?_
  obtain ⟨b11, eb11, h⟩ := zbind h
  refine zo_getR 4 zkd_4 1 d_Pa_worthBy_1 eb11 rfl tw_299 rfl ?_
  refine zi_aload_n 1 d_Pa_worthBy_4 rfl ?_
  obtain ⟨u12, eu12, h⟩ := zbind h
  obtain ⟨q13, eq13, h⟩ := zbind h
  refine zo_virt (k' := 0) (n' := 0) 8 [.ref a1] [] [] zkd_3 (zck_s eu12) (C_Ni_copyFrom n E S b11 a1 M q13 eq13) d_Pa_worthBy_5 tw_867 tw_984 tw_865 tw_866 tw_2 dd_Ni_copyFrom ⟨Nat.le_of_ble_eq_true rfl, Nat.le_of_ble_eq_true rfl, Nat.le_of_ble_eq_true rfl, Nat.le_of_ble_eq_true rfl⟩ (Nat.le_of_ble_eq_true rfl) rfl rfl rfl rfl ?_
  refine zi_aload_n 0 d_Pa_worthBy_8 rfl ?_
  refine zo_getR 12 zkd_4 1 d_Pa_worthBy_9 eb11 rfl tw_299 rfl ?_
  refine zi_iload_n 2 d_Pa_worthBy_12 rfl ?_
  obtain ⟨m14, em14, h⟩ := zbind h
  refine zo_putI 16 zkd_3 14 d_Pa_worthBy_13 em14 rfl rfl rfl tw_97 rfl ?_
  refine zi_iconst 0 d_Pa_worthBy_16 rfl ?_
  refine zi_istore_n [(3, .int 0), (0, .ref a0), (1, .ref a1), (2, .int x2)] d_Pa_worthBy_17 (by decide) rfl ?_
  refine zi_iconst 0 d_Pa_worthBy_18 rfl ?_
  refine zi_istore [(4, .int 0), (3, .int 0), (0, .ref a0), (1, .ref a1), (2, .int x2)] d_Pa_worthBy_19 (by decide) rfl ?_
  refine zi_lo [(0, .ref a0), (3, .int 0), (4, .int 0)] [2, 1, 0] rfl ?_
  exact K_Pa_worthBy_b21 n E S a0 0 0 m14 r M'  h
theorem C_Pa_worthBy (n : Nat) (E : zE) (S : zS) (a0 : Nat) (a1 : Nat) (x2 : Int32) (M : zH) (r : Int32) (M' : zH) (h : F_Pa_worthBy n E S a0 a1 x2 M = some (r, M')) : zC E Y_Pa_worthBy [.ref a0, .ref a1, .int x2] S M (some (.int r), S, M') :=
  zC.of (Or.inl (show plainName "NightColander$Paper" = true by decide)) (Nat.le_of_ble_eq_true rfl) (trivial) (K_Pa_worthBy n E S a0 a1 x2 M r M' h)
theorem d_NC_worth_0 : decode (yB Y_NC_worth) 0 = .ok (.iload_n 1, 1) := by decide +kernel
theorem d_NC_worth_1 : decode (yB Y_NC_worth) 1 = .ok (.iconst (-1), 1) := by decide +kernel
theorem d_NC_worth_2 : decode (yB Y_NC_worth) 2 = .ok (.if_icmp .eq 16, 3) := by decide +kernel
theorem d_NC_worth_5 : decode (yB Y_NC_worth) 5 = .ok (.aload_n 0, 1) := by decide +kernel
theorem d_NC_worth_6 : decode (yB Y_NC_worth) 6 = .ok (.getfield 12, 3) := by decide +kernel
theorem d_NC_worth_9 : decode (yB Y_NC_worth) 9 = .ok (.iload_n 1, 1) := by decide +kernel
theorem d_NC_worth_10 : decode (yB Y_NC_worth) 10 = .ok (.invokevirtual 243, 3) := by decide +kernel
theorem d_NC_worth_13 : decode (yB Y_NC_worth) 13 = .ok (.ifCond .ne 5, 3) := by decide +kernel
theorem d_NC_worth_16 : decode (yB Y_NC_worth) 16 = .ok (.iconst (-1), 1) := by decide +kernel
theorem d_NC_worth_17 : decode (yB Y_NC_worth) 17 = .ok (.ireturn, 1) := by decide +kernel
theorem d_NC_worth_18 : decode (yB Y_NC_worth) 18 = .ok (.aload_n 0, 1) := by decide +kernel
theorem d_NC_worth_19 : decode (yB Y_NC_worth) 19 = .ok (.getfield 86, 3) := by decide +kernel
theorem d_NC_worth_22 : decode (yB Y_NC_worth) 22 = .ok (.aload_n 0, 1) := by decide +kernel
theorem d_NC_worth_23 : decode (yB Y_NC_worth) 23 = .ok (.getfield 12, 3) := by decide +kernel
theorem d_NC_worth_26 : decode (yB Y_NC_worth) 26 = .ok (.iload_n 1, 1) := by decide +kernel
theorem d_NC_worth_27 : decode (yB Y_NC_worth) 27 = .ok (.invokevirtual 310, 3) := by decide +kernel
theorem d_NC_worth_30 : decode (yB Y_NC_worth) 30 = .ok (.ireturn, 1) := by decide +kernel
def F_NC_worth_b18 (n : Nat) (E : zE) (S : zS) (a0 : Nat) (x1 : Int32) (M : zH) : Option (Int32 × zH) :=
  (zgR S a0 10 12).bind fun b1 =>
  (zgR S a0 10 0).bind fun b2 =>
  (zck S b1 4).bind fun u3 =>
  (F_Pa_worthBy n E S b1 b2 x1 M).bind fun q4 =>
  some (q4.1, q4.2)
def F_NC_worth (n : Nat) (E : zE) (S : zS) (a0 : Nat) (x1 : Int32) (M : zH) : Option (Int32 × zH) :=
  if x1 = (-1) then
    F_NC_worth_b18 n E S a0 x1 M
  else
    (zgR S a0 10 0).bind fun b6 =>
    (zck S b6 3).bind fun u7 =>
    (F_Ni_hasLaw n E S b6 x1 M).bind fun q8 =>
    if q8.1 = true then
      F_NC_worth_b18 n E S a0 x1 q8.2
    else
      some ((-1), q8.2)
theorem K_NC_worth_b18 (n : Nat) (E : zE) (S : zS) (a0 : Nat) (x1 : Int32) (M : zH) (r : Int32) (M' : zH)  (h : F_NC_worth_b18 n E S a0 x1 M = some (r, M')) : zG E Y_NC_worth (some (.int r), S, M') 18 [(0, .ref a0), (1, .int x1)] [] S M 0 0 := by
  unfold F_NC_worth_b18 at h
  refine zi_aload_n 0 d_NC_worth_18 rfl ?_
  obtain ⟨b1, eb1, h⟩ := zbind h
  refine zo_getR 22 zkd_10 12 d_NC_worth_19 eb1 rfl tw_344 rfl ?_
  refine zi_aload_n 0 d_NC_worth_22 rfl ?_
  obtain ⟨b2, eb2, h⟩ := zbind h
  refine zo_getR 26 zkd_10 0 d_NC_worth_23 eb2 rfl tw_332 rfl ?_
  refine zi_iload_n 1 d_NC_worth_26 rfl ?_
  obtain ⟨u3, eu3, h⟩ := zbind h
  obtain ⟨q4, eq4, h⟩ := zbind h
  refine zo_virt (k' := 0) (n' := 0) 30 [.ref b2, .int x1] [] [.int q4.1] zkd_4 (zck_s eu3) (C_Pa_worthBy n E S b1 b2 x1 M q4.1 q4.2 eq4) d_NC_worth_27 tw_1154 tw_1151 tw_1152 tw_1153 tw_12 dd_Pa_worthBy ⟨Nat.le_of_ble_eq_true rfl, Nat.le_of_ble_eq_true rfl, Nat.le_of_ble_eq_true rfl, Nat.le_of_ble_eq_true rfl⟩ (Nat.le_of_ble_eq_true rfl) rfl rfl rfl rfl ?_
  cases h
  exact zo_ret d_NC_worth_30 (Nat.le_of_ble_eq_true rfl) (Nat.le_of_ble_eq_true rfl) rfl
theorem K_NC_worth (n : Nat) (E : zE) (S : zS) (a0 : Nat) (x1 : Int32) (M : zH) (r : Int32) (M' : zH)  (h : F_NC_worth n E S a0 x1 M = some (r, M')) : zG E Y_NC_worth (some (.int r), S, M') 0 [(0, .ref a0), (1, .int x1)] [] S M 0 0 := by
  unfold F_NC_worth at h
  refine zi_iload_n 1 d_NC_worth_0 rfl ?_
  refine zi_iconst (-1) d_NC_worth_1 rfl ?_
  refine zi_icmp_eq (tgt := 18) d_NC_worth_2 rfl (fun c5 => ?_) (fun c5 => ?_)
  · rw [if_pos c5] at h
    refine zi_lo [(0, .ref a0), (1, .int x1)] [0, 1] rfl ?_
    exact K_NC_worth_b18 n E S a0 x1 M r M'  h
  · rw [if_neg c5] at h
    refine zi_aload_n 0 d_NC_worth_5 rfl ?_
    obtain ⟨b6, eb6, h⟩ := zbind h
    refine zo_getR 9 zkd_10 0 d_NC_worth_6 eb6 rfl tw_332 rfl ?_
    refine zi_iload_n 1 d_NC_worth_9 rfl ?_
    obtain ⟨u7, eu7, h⟩ := zbind h
    obtain ⟨q8, eq8, h⟩ := zbind h
    refine zo_virt (k' := 0) (n' := 0) 13 [.int x1] [] [.int (bI q8.1)] zkd_3 (zck_s eu7) (C_Ni_hasLaw n E S b6 x1 M q8.1 q8.2 eq8) d_NC_worth_10 tw_945 tw_942 tw_943 tw_944 tw_2 dd_Ni_hasLaw ⟨Nat.le_of_ble_eq_true rfl, Nat.le_of_ble_eq_true rfl, Nat.le_of_ble_eq_true rfl, Nat.le_of_ble_eq_true rfl⟩ (Nat.le_of_ble_eq_true rfl) rfl rfl rfl rfl ?_
    refine zo_ifneB d_NC_worth_13 rfl 16 rfl (fun c9 => ?_) (fun c9 => ?_)
    · rw [if_pos c9] at h
      refine zi_lo [(0, .ref a0), (1, .int x1)] [0, 1] rfl ?_
      exact K_NC_worth_b18 n E S a0 x1 q8.2 r M'  h
    · rw [if_neg c9] at h
      refine zi_iconst (-1) d_NC_worth_16 rfl ?_
      cases h
      exact zo_ret d_NC_worth_17 (Nat.le_of_ble_eq_true rfl) (Nat.le_of_ble_eq_true rfl) rfl
theorem C_NC_worth (n : Nat) (E : zE) (S : zS) (a0 : Nat) (x1 : Int32) (M : zH) (r : Int32) (M' : zH) (h : F_NC_worth n E S a0 x1 M = some (r, M')) : zC E Y_NC_worth [.ref a0, .int x1] S M (some (.int r), S, M') :=
  zC.of (Or.inl (show plainName "NightColander" = true by decide)) (Nat.le_of_ble_eq_true rfl) (trivial) (K_NC_worth n E S a0 x1 M r M' h)
theorem d_De_nextDraw_0 : decode (yB Y_De_nextDraw) 0 = .ok (.lload_n 0, 1) := by decide +kernel
theorem d_De_nextDraw_1 : decode (yB Y_De_nextDraw) 1 = .ok (.ldc2_w 65, 3) := by decide +kernel
theorem d_De_nextDraw_4 : decode (yB Y_De_nextDraw) 4 = .ok (.lmul, 1) := by decide +kernel
theorem d_De_nextDraw_5 : decode (yB Y_De_nextDraw) 5 = .ok (.ldc2_w 67, 3) := by decide +kernel
theorem d_De_nextDraw_8 : decode (yB Y_De_nextDraw) 8 = .ok (.ladd, 1) := by decide +kernel
theorem d_De_nextDraw_9 : decode (yB Y_De_nextDraw) 9 = .ok (.ldc2_w 69, 3) := by decide +kernel
theorem d_De_nextDraw_12 : decode (yB Y_De_nextDraw) 12 = .ok (.lrem, 1) := by decide +kernel
theorem d_De_nextDraw_13 : decode (yB Y_De_nextDraw) 13 = .ok (.lreturn, 1) := by decide +kernel
def F_De_nextDraw (n : Nat) (E : zE) (S : zS) (y0 : Int64) (M : zH) : Option (Int64 × zH) :=
  (zremJ ((y0 * 1103) + 12345) 1000003).bind fun v1 =>
  some (v1, M)
theorem K_De_nextDraw (n : Nat) (E : zE) (S : zS) (y0 : Int64) (M : zH) (r : Int64) (M' : zH)  (h : F_De_nextDraw n E S y0 M = some (r, M')) : zG E Y_De_nextDraw (some (.long r), S, M') 0 [(0, .long y0)] [] S M 0 0 := by
  unfold F_De_nextDraw at h
  refine zi_lload_n 0 d_De_nextDraw_0 rfl ?_
  refine zi_ldc2 d_De_nextDraw_1 tw_1168 ?_
  refine zi_lmul d_De_nextDraw_4 ?_
  refine zi_ldc2 d_De_nextDraw_5 tw_1169 ?_
  refine zi_ladd d_De_nextDraw_8 ?_
  refine zi_ldc2 d_De_nextDraw_9 tw_1170 ?_
  obtain ⟨v1, ev1, h⟩ := zbind h
  refine zo_lrem 13 d_De_nextDraw_12 ev1 rfl ?_
  cases h
  exact zo_ret d_De_nextDraw_13 (Nat.le_of_ble_eq_true rfl) (Nat.le_of_ble_eq_true rfl) rfl
theorem C_De_nextDraw (n : Nat) (E : zE) (S : zS) (y0 : Int64) (M : zH) (r : Int64) (M' : zH) (h : F_De_nextDraw n E S y0 M = some (r, M')) : zC E Y_De_nextDraw [.long y0] S M (some (.long r), S, M') :=
  zC.of (Or.inl (show plainName "NightColander$Deeds" = true by decide)) (Nat.le_of_ble_eq_true rfl) (trivial) (K_De_nextDraw n E S y0 M r M' h)
theorem d_De_runYears_0 : decode (yB Y_De_runYears) 0 = .ok (.iload_n 2, 1) := by decide +kernel
theorem d_De_runYears_1 : decode (yB Y_De_runYears) 1 = .ok (.i2l, 1) := by decide +kernel
theorem d_De_runYears_2 : decode (yB Y_De_runYears) 2 = .ok (.lstore 4, 2) := by decide +kernel
theorem d_De_runYears_4 : decode (yB Y_De_runYears) 4 = .ok (.iconst 0, 1) := by decide +kernel
theorem d_De_runYears_5 : decode (yB Y_De_runYears) 5 = .ok (.istore 6, 2) := by decide +kernel
theorem d_De_runYears_7 : decode (yB Y_De_runYears) 7 = .ok (.iconst 0, 1) := by decide +kernel
theorem d_De_runYears_8 : decode (yB Y_De_runYears) 8 = .ok (.istore 7, 2) := by decide +kernel
theorem d_De_runYears_10 : decode (yB Y_De_runYears) 10 = .ok (.iload 7, 2) := by decide +kernel
theorem d_De_runYears_12 : decode (yB Y_De_runYears) 12 = .ok (.iload_n 3, 1) := by decide +kernel
theorem d_De_runYears_13 : decode (yB Y_De_runYears) 13 = .ok (.if_icmp .ge 125, 3) := by decide +kernel
theorem d_De_runYears_16 : decode (yB Y_De_runYears) 16 = .ok (.aload_n 1, 1) := by decide +kernel
theorem d_De_runYears_17 : decode (yB Y_De_runYears) 17 = .ok (.getfield 49, 3) := by decide +kernel
theorem d_De_runYears_20 : decode (yB Y_De_runYears) 20 = .ok (.iconst 0, 1) := by decide +kernel
theorem d_De_runYears_21 : decode (yB Y_De_runYears) 21 = .ok (.iaload, 1) := by decide +kernel
theorem d_De_runYears_22 : decode (yB Y_De_runYears) 22 = .ok (.sipush 999, 3) := by decide +kernel
theorem d_De_runYears_25 : decode (yB Y_De_runYears) 25 = .ok (.if_icmp .ge 113, 3) := by decide +kernel
theorem d_De_runYears_28 : decode (yB Y_De_runYears) 28 = .ok (.lload 4, 2) := by decide +kernel
theorem d_De_runYears_30 : decode (yB Y_De_runYears) 30 = .ok (.invokestatic 52, 3) := by decide +kernel
theorem d_De_runYears_33 : decode (yB Y_De_runYears) 33 = .ok (.lstore 4, 2) := by decide +kernel
theorem d_De_runYears_35 : decode (yB Y_De_runYears) 35 = .ok (.lload 4, 2) := by decide +kernel
theorem d_De_runYears_37 : decode (yB Y_De_runYears) 37 = .ok (.ldc2_w 56, 3) := by decide +kernel
theorem d_De_runYears_40 : decode (yB Y_De_runYears) 40 = .ok (.lrem, 1) := by decide +kernel
theorem d_De_runYears_41 : decode (yB Y_De_runYears) 41 = .ok (.l2i, 1) := by decide +kernel
theorem d_De_runYears_42 : decode (yB Y_De_runYears) 42 = .ok (.istore 8, 2) := by decide +kernel
theorem d_De_runYears_44 : decode (yB Y_De_runYears) 44 = .ok (.lload 4, 2) := by decide +kernel
theorem d_De_runYears_46 : decode (yB Y_De_runYears) 46 = .ok (.invokestatic 52, 3) := by decide +kernel
theorem d_De_runYears_49 : decode (yB Y_De_runYears) 49 = .ok (.lstore 4, 2) := by decide +kernel
theorem d_De_runYears_51 : decode (yB Y_De_runYears) 51 = .ok (.iload 8, 2) := by decide +kernel
theorem d_De_runYears_53 : decode (yB Y_De_runYears) 53 = .ok (.bipush 8, 2) := by decide +kernel
theorem d_De_runYears_55 : decode (yB Y_De_runYears) 55 = .ok (.imul, 1) := by decide +kernel
theorem d_De_runYears_56 : decode (yB Y_De_runYears) 56 = .ok (.lload 4, 2) := by decide +kernel
theorem d_De_runYears_58 : decode (yB Y_De_runYears) 58 = .ok (.ldc2_w 58, 3) := by decide +kernel
theorem d_De_runYears_61 : decode (yB Y_De_runYears) 61 = .ok (.lrem, 1) := by decide +kernel
theorem d_De_runYears_62 : decode (yB Y_De_runYears) 62 = .ok (.l2i, 1) := by decide +kernel
theorem d_De_runYears_63 : decode (yB Y_De_runYears) 63 = .ok (.iadd, 1) := by decide +kernel
theorem d_De_runYears_64 : decode (yB Y_De_runYears) 64 = .ok (.istore 9, 2) := by decide +kernel
theorem d_De_runYears_66 : decode (yB Y_De_runYears) 66 = .ok (.lload 4, 2) := by decide +kernel
theorem d_De_runYears_68 : decode (yB Y_De_runYears) 68 = .ok (.invokestatic 52, 3) := by decide +kernel
theorem d_De_runYears_71 : decode (yB Y_De_runYears) 71 = .ok (.lstore 4, 2) := by decide +kernel
theorem d_De_runYears_73 : decode (yB Y_De_runYears) 73 = .ok (.lload 4, 2) := by decide +kernel
theorem d_De_runYears_75 : decode (yB Y_De_runYears) 75 = .ok (.ldc2_w 60, 3) := by decide +kernel
theorem d_De_runYears_78 : decode (yB Y_De_runYears) 78 = .ok (.lrem, 1) := by decide +kernel
theorem d_De_runYears_79 : decode (yB Y_De_runYears) 79 = .ok (.l2i, 1) := by decide +kernel
theorem d_De_runYears_80 : decode (yB Y_De_runYears) 80 = .ok (.istore 10, 2) := by decide +kernel
theorem d_De_runYears_82 : decode (yB Y_De_runYears) 82 = .ok (.iload 10, 2) := by decide +kernel
theorem d_De_runYears_84 : decode (yB Y_De_runYears) 84 = .ok (.ifCond .ne 13, 3) := by decide +kernel
theorem d_De_runYears_87 : decode (yB Y_De_runYears) 87 = .ok (.aload_n 1, 1) := by decide +kernel
theorem d_De_runYears_88 : decode (yB Y_De_runYears) 88 = .ok (.iload 9, 2) := by decide +kernel
theorem d_De_runYears_90 : decode (yB Y_De_runYears) 90 = .ok (.invokestatic 34, 3) := by decide +kernel
theorem d_De_runYears_93 : decode (yB Y_De_runYears) 93 = .ok (.pop, 1) := by decide +kernel
theorem d_De_runYears_94 : decode (yB Y_De_runYears) 94 = .ok (.goto 28, 3) := by decide +kernel
theorem d_De_runYears_97 : decode (yB Y_De_runYears) 97 = .ok (.iload 10, 2) := by decide +kernel
theorem d_De_runYears_99 : decode (yB Y_De_runYears) 99 = .ok (.iconst 1, 1) := by decide +kernel
theorem d_De_runYears_100 : decode (yB Y_De_runYears) 100 = .ok (.if_icmp .ne 22, 3) := by decide +kernel
theorem d_De_runYears_103 : decode (yB Y_De_runYears) 103 = .ok (.aload_n 1, 1) := by decide +kernel
theorem d_De_runYears_104 : decode (yB Y_De_runYears) 104 = .ok (.getfield 62, 3) := by decide +kernel
theorem d_De_runYears_107 : decode (yB Y_De_runYears) 107 = .ok (.iload 9, 2) := by decide +kernel
theorem d_De_runYears_109 : decode (yB Y_De_runYears) 109 = .ok (.iaload, 1) := by decide +kernel
theorem d_De_runYears_110 : decode (yB Y_De_runYears) 110 = .ok (.bipush 9, 2) := by decide +kernel
theorem d_De_runYears_112 : decode (yB Y_De_runYears) 112 = .ok (.if_icmp .ge 10, 3) := by decide +kernel
theorem d_De_runYears_115 : decode (yB Y_De_runYears) 115 = .ok (.aload_n 1, 1) := by decide +kernel
theorem d_De_runYears_116 : decode (yB Y_De_runYears) 116 = .ok (.iload 9, 2) := by decide +kernel
theorem d_De_runYears_118 : decode (yB Y_De_runYears) 118 = .ok (.invokestatic 38, 3) := by decide +kernel
theorem d_De_runYears_121 : decode (yB Y_De_runYears) 121 = .ok (.pop, 1) := by decide +kernel
theorem d_De_runYears_122 : decode (yB Y_De_runYears) 122 = .ok (.iload 6, 2) := by decide +kernel
theorem d_De_runYears_124 : decode (yB Y_De_runYears) 124 = .ok (.aload_n 0, 1) := by decide +kernel
theorem d_De_runYears_125 : decode (yB Y_De_runYears) 125 = .ok (.aload_n 1, 1) := by decide +kernel
theorem d_De_runYears_126 : decode (yB Y_De_runYears) 126 = .ok (.invokevirtual 45, 3) := by decide +kernel
theorem d_De_runYears_129 : decode (yB Y_De_runYears) 129 = .ok (.iadd, 1) := by decide +kernel
theorem d_De_runYears_130 : decode (yB Y_De_runYears) 130 = .ok (.istore 6, 2) := by decide +kernel
theorem d_De_runYears_132 : decode (yB Y_De_runYears) 132 = .ok (.iinc 7 1, 3) := by decide +kernel
theorem d_De_runYears_135 : decode (yB Y_De_runYears) 135 = .ok (.goto (-125), 3) := by decide +kernel
theorem d_De_runYears_138 : decode (yB Y_De_runYears) 138 = .ok (.iload 6, 2) := by decide +kernel
theorem d_De_runYears_140 : decode (yB Y_De_runYears) 140 = .ok (.ireturn, 1) := by decide +kernel
def F_De_runYears_b122 (n : Nat) (E : zE) (S : zS) (r10 : Nat × Nat × Int32 × Int64 × Int32 × Int32 × zH → Option (Int32 × zH)) (a0 : Nat) (a1 : Nat) (x3 : Int32) (y4 : Int64) (x6 : Int32) (x7 : Int32) (M : zH) : Option (Int32 × zH) :=
  (zck S a0 0).bind fun u1 =>
  (F_De_letHourPass n E S a0 a1 M).bind fun q2 =>
  r10 (a0, a1, x3, y4, x6 + q2.1, x7 + 1, q2.2)
def F_De_runYears_L10 (n : Nat) (E : zE) (S : zS) (r10 : Nat × Nat × Int32 × Int64 × Int32 × Int32 × zH → Option (Int32 × zH)) (a0 : Nat) (a1 : Nat) (x3 : Int32) (y4 : Int64) (x6 : Int32) (x7 : Int32) (M : zH) : Option (Int32 × zH) :=
  if x3 ≤ x7 then
    some (x6, M)
  else
    (zgR S a1 3 9).bind fun b4 =>
    (zldI S M b4 0).bind fun v5 =>
    if 999 ≤ v5 then
      some (x6, M)
    else
      (F_De_nextDraw n E S y4 M).bind fun q7 =>
      (zremJ q7.1 4).bind fun v8 =>
      (F_De_nextDraw n E S q7.1 q7.2).bind fun q9 =>
      (zremJ q9.1 8).bind fun v10 =>
      (F_De_nextDraw n E S q9.1 q9.2).bind fun q11 =>
      (zremJ q11.1 3).bind fun v12 =>
      if v12.toInt32 = 0 then
        (F_De_changeBlock n E S a1 ((v8.toInt32 * 8) + v10.toInt32) q11.2).bind fun q14 =>
        F_De_runYears_b122 n E S r10 a0 a1 x3 q11.1 x6 x7 q14.2
      else
        if v12.toInt32 = 1 then
          (zgR S a1 3 0).bind fun b16 =>
          (zldI S q11.2 b16 ((v8.toInt32 * 8) + v10.toInt32)).bind fun v17 =>
          if 9 ≤ v17 then
            F_De_runYears_b122 n E S r10 a0 a1 x3 q11.1 x6 x7 q11.2
          else
            (F_De_widen n E S a1 ((v8.toInt32 * 8) + v10.toInt32) q11.2).bind fun q19 =>
            F_De_runYears_b122 n E S r10 a0 a1 x3 q11.1 x6 x7 q19.2
        else
          F_De_runYears_b122 n E S r10 a0 a1 x3 q11.1 x6 x7 q11.2
def F_De_runYears_b10 (n : Nat) (E : zE) (S : zS) : Nat × Nat × Int32 × Int64 × Int32 × Int32 × zH → Option (Int32 × zH) := zfix (fun r10 s => F_De_runYears_L10 n E S r10 s.1 s.2.1 s.2.2.1 s.2.2.2.1 s.2.2.2.2.1 s.2.2.2.2.2.1 s.2.2.2.2.2.2) n
def F_De_runYears (n : Nat) (E : zE) (S : zS) (a0 : Nat) (a1 : Nat) (x2 : Int32) (x3 : Int32) (M : zH) : Option (Int32 × zH) :=
  F_De_runYears_b10 n E S (a0, a1, x3, x2.toInt64, 0, 0, M)
theorem K_De_runYears_b122 (n : Nat) (E : zE) (S : zS) (r10 : Nat × Nat × Int32 × Int64 × Int32 × Int32 × zH → Option (Int32 × zH)) (a0 : Nat) (a1 : Nat) (x3 : Int32) (y4 : Int64) (x6 : Int32) (x7 : Int32) (M : zH) (r : Int32) (M' : zH) (hr10 : ∀ (a0 : Nat) (a1 : Nat) (x3 : Int32) (y4 : Int64) (x6 : Int32) (x7 : Int32) (M : zH), r10 (a0, a1, x3, y4, x6, x7, M) = some (r, M') → zG E Y_De_runYears (some (.int r), S, M') 10 [(0, .ref a0), (1, .ref a1), (3, .int x3), (4, .long y4), (6, .int x6), (7, .int x7)] [] S M 0 0) (h : F_De_runYears_b122 n E S r10 a0 a1 x3 y4 x6 x7 M = some (r, M')) : zG E Y_De_runYears (some (.int r), S, M') 122 [(0, .ref a0), (1, .ref a1), (3, .int x3), (4, .long y4), (6, .int x6), (7, .int x7)] [] S M 0 0 := by
  unfold F_De_runYears_b122 at h
  refine zi_iload 4 d_De_runYears_122 rfl ?_
  refine zi_aload_n 0 d_De_runYears_124 rfl ?_
  refine zi_aload_n 1 d_De_runYears_125 rfl ?_
  obtain ⟨u1, eu1, h⟩ := zbind h
  obtain ⟨q2, eq2, h⟩ := zbind h
  refine zo_virt (k' := 0) (n' := 0) 129 [.ref a1] [.int x6] [.int q2.1, .int x6] zkd_0 (zck_s eu1) (C_De_letHourPass n E S a0 a1 M q2.1 q2.2 eq2) d_De_runYears_126 tw_921 tw_918 tw_920 ts_23 tw_10 dd_De_letHourPass ⟨Nat.le_of_ble_eq_true rfl, Nat.le_of_ble_eq_true rfl, Nat.le_of_ble_eq_true rfl, Nat.le_of_ble_eq_true rfl⟩ (Nat.le_of_ble_eq_true rfl) rfl rfl rfl rfl ?_
  refine zi_iadd d_De_runYears_129 ?_
  refine zi_istore [(6, .int (x6 + q2.1)), (0, .ref a0), (1, .ref a1), (3, .int x3), (4, .long y4), (7, .int x7)] d_De_runYears_130 (by decide) rfl ?_
  refine zi_iinc 5 (x7 + 1) [(7, .int (x7 + 1)), (6, .int (x6 + q2.1)), (0, .ref a0), (1, .ref a1), (3, .int x3), (4, .long y4)] d_De_runYears_132 rfl rfl (by decide) rfl ?_
  refine zi_goto (tgt := 10) d_De_runYears_135 rfl ?_
  refine zi_lo [(0, .ref a0), (1, .ref a1), (3, .int x3), (4, .long y4), (6, .int (x6 + q2.1)), (7, .int (x7 + 1))] [2, 3, 4, 5, 1, 0] rfl ?_
  exact hr10 a0 a1 x3 y4 (x6 + q2.1) (x7 + 1) q2.2 h
theorem K_De_runYears_L10 (n : Nat) (E : zE) (S : zS) (r10 : Nat × Nat × Int32 × Int64 × Int32 × Int32 × zH → Option (Int32 × zH)) (a0 : Nat) (a1 : Nat) (x3 : Int32) (y4 : Int64) (x6 : Int32) (x7 : Int32) (M : zH) (r : Int32) (M' : zH) (hr10 : ∀ (a0 : Nat) (a1 : Nat) (x3 : Int32) (y4 : Int64) (x6 : Int32) (x7 : Int32) (M : zH), r10 (a0, a1, x3, y4, x6, x7, M) = some (r, M') → zG E Y_De_runYears (some (.int r), S, M') 10 [(0, .ref a0), (1, .ref a1), (3, .int x3), (4, .long y4), (6, .int x6), (7, .int x7)] [] S M 0 0) (h : F_De_runYears_L10 n E S r10 a0 a1 x3 y4 x6 x7 M = some (r, M')) : zG E Y_De_runYears (some (.int r), S, M') 10 [(0, .ref a0), (1, .ref a1), (3, .int x3), (4, .long y4), (6, .int x6), (7, .int x7)] [] S M 0 0 := by
  unfold F_De_runYears_L10 at h
  refine zi_iload 5 d_De_runYears_10 rfl ?_
  refine zi_iload_n 2 d_De_runYears_12 rfl ?_
  refine zi_icmp_ge (tgt := 138) d_De_runYears_13 rfl (fun c3 => ?_) (fun c3 => ?_)
  · rw [if_pos c3] at h
    refine zi_iload 4 d_De_runYears_138 rfl ?_
    cases h
    exact zo_ret d_De_runYears_140 (Nat.le_of_ble_eq_true rfl) (Nat.le_of_ble_eq_true rfl) rfl
  · rw [if_neg c3] at h
    refine zi_aload_n 1 d_De_runYears_16 rfl ?_
    obtain ⟨b4, eb4, h⟩ := zbind h
    refine zo_getR 20 zkd_3 9 d_De_runYears_17 eb4 rfl tw_83 rfl ?_
    refine zi_iconst 0 d_De_runYears_20 rfl ?_
    obtain ⟨v5, ev5, h⟩ := zbind h
    refine zo_iald 22 d_De_runYears_21 ev5 rfl ?_
    refine zi_sipush 999 d_De_runYears_22 rfl ?_
    refine zi_icmp_ge (tgt := 138) d_De_runYears_25 rfl (fun c6 => ?_) (fun c6 => ?_)
    · rw [if_pos c6] at h
      refine zi_iload 4 d_De_runYears_138 rfl ?_
      cases h
      exact zo_ret d_De_runYears_140 (Nat.le_of_ble_eq_true rfl) (Nat.le_of_ble_eq_true rfl) rfl
    · rw [if_neg c6] at h
      refine zi_lload 3 d_De_runYears_28 rfl ?_
      obtain ⟨q7, eq7, h⟩ := zbind h
      refine zo_stat (k' := 0) (n' := 0) 33 [.long y4] [] [.long q7.1] (C_De_nextDraw n E S y4 M q7.1 q7.2 eq7) d_De_runYears_30 tw_1167 tw_1165 tw_1166 tw_10 dd_De_nextDraw ⟨Nat.le_of_ble_eq_true rfl, Nat.le_of_ble_eq_true rfl, Nat.le_of_ble_eq_true rfl, Nat.le_of_ble_eq_true rfl⟩ (Nat.le_of_ble_eq_true rfl) rfl rfl rfl rfl ?_
      refine zi_lstore [(4, .long q7.1), (0, .ref a0), (1, .ref a1), (3, .int x3), (6, .int x6), (7, .int x7)] d_De_runYears_33 (by decide) rfl ?_
      refine zi_lload 0 d_De_runYears_35 rfl ?_
      refine zi_ldc2 d_De_runYears_37 tw_1171 ?_
      obtain ⟨v8, ev8, h⟩ := zbind h
      refine zo_lrem 41 d_De_runYears_40 ev8 rfl ?_
      refine zi_l2i d_De_runYears_41 ?_
      refine zi_istore [(8, .int v8.toInt32), (4, .long q7.1), (0, .ref a0), (1, .ref a1), (3, .int x3), (6, .int x6), (7, .int x7)] d_De_runYears_42 (by decide) rfl ?_
      refine zi_lload 1 d_De_runYears_44 rfl ?_
      obtain ⟨q9, eq9, h⟩ := zbind h
      refine zo_stat (k' := 0) (n' := 0) 49 [.long q7.1] [] [.long q9.1] (C_De_nextDraw n E S q7.1 q7.2 q9.1 q9.2 eq9) d_De_runYears_46 tw_1167 tw_1165 tw_1166 tw_10 dd_De_nextDraw ⟨Nat.le_of_ble_eq_true rfl, Nat.le_of_ble_eq_true rfl, Nat.le_of_ble_eq_true rfl, Nat.le_of_ble_eq_true rfl⟩ (Nat.le_of_ble_eq_true rfl) rfl rfl rfl rfl ?_
      refine zi_lstore [(4, .long q9.1), (8, .int v8.toInt32), (0, .ref a0), (1, .ref a1), (3, .int x3), (6, .int x6), (7, .int x7)] d_De_runYears_49 (by decide) rfl ?_
      refine zi_iload 1 d_De_runYears_51 rfl ?_
      refine zi_bipush 8 d_De_runYears_53 rfl ?_
      refine zi_imul d_De_runYears_55 ?_
      refine zi_lload 0 d_De_runYears_56 rfl ?_
      refine zi_ldc2 d_De_runYears_58 tw_1172 ?_
      obtain ⟨v10, ev10, h⟩ := zbind h
      refine zo_lrem 62 d_De_runYears_61 ev10 rfl ?_
      refine zi_l2i d_De_runYears_62 ?_
      refine zi_iadd d_De_runYears_63 ?_
      refine zi_istore [(9, .int ((v8.toInt32 * 8) + v10.toInt32)), (4, .long q9.1), (8, .int v8.toInt32), (0, .ref a0), (1, .ref a1), (3, .int x3), (6, .int x6), (7, .int x7)] d_De_runYears_64 (by decide) rfl ?_
      refine zi_lload 1 d_De_runYears_66 rfl ?_
      obtain ⟨q11, eq11, h⟩ := zbind h
      refine zo_stat (k' := 0) (n' := 0) 71 [.long q9.1] [] [.long q11.1] (C_De_nextDraw n E S q9.1 q9.2 q11.1 q11.2 eq11) d_De_runYears_68 tw_1167 tw_1165 tw_1166 tw_10 dd_De_nextDraw ⟨Nat.le_of_ble_eq_true rfl, Nat.le_of_ble_eq_true rfl, Nat.le_of_ble_eq_true rfl, Nat.le_of_ble_eq_true rfl⟩ (Nat.le_of_ble_eq_true rfl) rfl rfl rfl rfl ?_
      refine zi_lstore [(4, .long q11.1), (9, .int ((v8.toInt32 * 8) + v10.toInt32)), (8, .int v8.toInt32), (0, .ref a0), (1, .ref a1), (3, .int x3), (6, .int x6), (7, .int x7)] d_De_runYears_71 (by decide) rfl ?_
      refine zi_lload 0 d_De_runYears_73 rfl ?_
      refine zi_ldc2 d_De_runYears_75 tw_1173 ?_
      obtain ⟨v12, ev12, h⟩ := zbind h
      refine zo_lrem 79 d_De_runYears_78 ev12 rfl ?_
      refine zi_l2i d_De_runYears_79 ?_
      refine zi_istore [(10, .int v12.toInt32), (4, .long q11.1), (9, .int ((v8.toInt32 * 8) + v10.toInt32)), (8, .int v8.toInt32), (0, .ref a0), (1, .ref a1), (3, .int x3), (6, .int x6), (7, .int x7)] d_De_runYears_80 (by decide) rfl ?_
      refine zi_iload 0 d_De_runYears_82 rfl ?_
      refine zi_if_ne (tgt := 97) d_De_runYears_84 rfl (fun c13 => ?_) (fun c13 => ?_)
      · rw [if_neg c13] at h
        refine zi_iload 0 d_De_runYears_97 rfl ?_
        refine zi_iconst 1 d_De_runYears_99 rfl ?_
        refine zi_icmp_ne (tgt := 122) d_De_runYears_100 rfl (fun c15 => ?_) (fun c15 => ?_)
        · rw [if_neg c15] at h
          refine zi_lo [(0, .ref a0), (1, .ref a1), (3, .int x3), (4, .long q11.1), (6, .int x6), (7, .int x7)] [4, 5, 6, 1, 7, 8] rfl ?_
          exact K_De_runYears_b122 n E S r10 a0 a1 x3 q11.1 x6 x7 q11.2 r M' hr10 h
        · rw [if_pos c15] at h
          refine zi_aload_n 5 d_De_runYears_103 rfl ?_
          obtain ⟨b16, eb16, h⟩ := zbind h
          refine zo_getR 107 zkd_3 0 d_De_runYears_104 eb16 rfl tw_44 rfl ?_
          refine zi_iload 2 d_De_runYears_107 rfl ?_
          obtain ⟨v17, ev17, h⟩ := zbind h
          refine zo_iald 110 d_De_runYears_109 ev17 rfl ?_
          refine zi_bipush 9 d_De_runYears_110 rfl ?_
          refine zi_icmp_ge (tgt := 122) d_De_runYears_112 rfl (fun c18 => ?_) (fun c18 => ?_)
          · rw [if_pos c18] at h
            refine zi_lo [(0, .ref a0), (1, .ref a1), (3, .int x3), (4, .long q11.1), (6, .int x6), (7, .int x7)] [4, 5, 6, 1, 7, 8] rfl ?_
            exact K_De_runYears_b122 n E S r10 a0 a1 x3 q11.1 x6 x7 q11.2 r M' hr10 h
          · rw [if_neg c18] at h
            refine zi_aload_n 5 d_De_runYears_115 rfl ?_
            refine zi_iload 2 d_De_runYears_116 rfl ?_
            obtain ⟨q19, eq19, h⟩ := zbind h
            refine zo_stat (k' := 0) (n' := 0) 121 [.ref a1, .int ((v8.toInt32 * 8) + v10.toInt32)] [] [.int q19.1] (C_De_widen n E S a1 ((v8.toInt32 * 8) + v10.toInt32) q11.2 q19.1 q19.2 eq19) d_De_runYears_118 tw_914 tw_912 tw_913 tw_10 dd_De_widen ⟨Nat.le_of_ble_eq_true rfl, Nat.le_of_ble_eq_true rfl, Nat.le_of_ble_eq_true rfl, Nat.le_of_ble_eq_true rfl⟩ (Nat.le_of_ble_eq_true rfl) rfl rfl rfl rfl ?_
            refine zi_pop d_De_runYears_121 rfl ?_
            refine zi_lo [(0, .ref a0), (1, .ref a1), (3, .int x3), (4, .long q11.1), (6, .int x6), (7, .int x7)] [4, 5, 6, 1, 7, 8] rfl ?_
            exact K_De_runYears_b122 n E S r10 a0 a1 x3 q11.1 x6 x7 q19.2 r M' hr10 h
      · rw [if_pos c13] at h
        refine zi_aload_n 5 d_De_runYears_87 rfl ?_
        refine zi_iload 2 d_De_runYears_88 rfl ?_
        obtain ⟨q14, eq14, h⟩ := zbind h
        refine zo_stat (k' := 0) (n' := 0) 93 [.ref a1, .int ((v8.toInt32 * 8) + v10.toInt32)] [] [.int q14.1] (C_De_changeBlock n E S a1 ((v8.toInt32 * 8) + v10.toInt32) q11.2 q14.1 q14.2 eq14) d_De_runYears_90 tw_911 tw_909 tw_910 tw_10 dd_De_changeBlock ⟨Nat.le_of_ble_eq_true rfl, Nat.le_of_ble_eq_true rfl, Nat.le_of_ble_eq_true rfl, Nat.le_of_ble_eq_true rfl⟩ (Nat.le_of_ble_eq_true rfl) rfl rfl rfl rfl ?_
        refine zi_pop d_De_runYears_93 rfl ?_
        refine zi_goto (tgt := 122) d_De_runYears_94 rfl ?_
        refine zi_lo [(0, .ref a0), (1, .ref a1), (3, .int x3), (4, .long q11.1), (6, .int x6), (7, .int x7)] [4, 5, 6, 1, 7, 8] rfl ?_
        exact K_De_runYears_b122 n E S r10 a0 a1 x3 q11.1 x6 x7 q14.2 r M' hr10 h
theorem K_De_runYears_b10 (n : Nat) (E : zE) (S : zS) (a0 : Nat) (a1 : Nat) (x3 : Int32) (y4 : Int64) (x6 : Int32) (x7 : Int32) (M : zH) (r : Int32) (M' : zH)  (h : F_De_runYears_b10 n E S (a0, a1, x3, y4, x6, x7, M) = some (r, M')) : zG E Y_De_runYears (some (.int r), S, M') 10 [(0, .ref a0), (1, .ref a1), (3, .int x3), (4, .long y4), (6, .int x6), (7, .int x7)] [] S M 0 0 := by
  have key : ∀ (k : Nat) (a0 : Nat) (a1 : Nat) (x3 : Int32) (y4 : Int64) (x6 : Int32) (x7 : Int32) (M : zH), zfix (fun r10 s => F_De_runYears_L10 n E S r10 s.1 s.2.1 s.2.2.1 s.2.2.2.1 s.2.2.2.2.1 s.2.2.2.2.2.1 s.2.2.2.2.2.2) k (a0, a1, x3, y4, x6, x7, M) = some (r, M') → zG E Y_De_runYears (some (.int r), S, M') 10 [(0, .ref a0), (1, .ref a1), (3, .int x3), (4, .long y4), (6, .int x6), (7, .int x7)] [] S M 0 0 := by
    intro k
    induction k with
    | zero => intro a0 a1 x3 y4 x6 x7 M h; cases h
    | succ k ih => intro a0 a1 x3 y4 x6 x7 M h; exact K_De_runYears_L10 n E S _ a0 a1 x3 y4 x6 x7 M r M'  (fun a0 a1 x3 y4 x6 x7 M h => ih a0 a1 x3 y4 x6 x7 M h) h
  exact key n a0 a1 x3 y4 x6 x7 M h
theorem K_De_runYears (n : Nat) (E : zE) (S : zS) (a0 : Nat) (a1 : Nat) (x2 : Int32) (x3 : Int32) (M : zH) (r : Int32) (M' : zH)  (h : F_De_runYears n E S a0 a1 x2 x3 M = some (r, M')) : zG E Y_De_runYears (some (.int r), S, M') 0 [(0, .ref a0), (1, .ref a1), (2, .int x2), (3, .int x3)] [] S M 0 0 := by
  unfold F_De_runYears at h
  refine zi_iload_n 2 d_De_runYears_0 rfl ?_
  refine zi_i2l d_De_runYears_1 ?_
  refine zi_lstore [(4, .long x2.toInt64), (0, .ref a0), (1, .ref a1), (2, .int x2), (3, .int x3)] d_De_runYears_2 (by decide) rfl ?_
  refine zi_iconst 0 d_De_runYears_4 rfl ?_
  refine zi_istore [(6, .int 0), (4, .long x2.toInt64), (0, .ref a0), (1, .ref a1), (2, .int x2), (3, .int x3)] d_De_runYears_5 (by decide) rfl ?_
  refine zi_iconst 0 d_De_runYears_7 rfl ?_
  refine zi_istore [(7, .int 0), (6, .int 0), (4, .long x2.toInt64), (0, .ref a0), (1, .ref a1), (2, .int x2), (3, .int x3)] d_De_runYears_8 (by decide) rfl ?_
  refine zi_lo [(0, .ref a0), (1, .ref a1), (3, .int x3), (4, .long x2.toInt64), (6, .int 0), (7, .int 0)] [3, 4, 6, 2, 1, 0] rfl ?_
  exact K_De_runYears_b10 n E S a0 a1 x3 x2.toInt64 0 0 M r M'  h
theorem C_De_runYears (n : Nat) (E : zE) (S : zS) (a0 : Nat) (a1 : Nat) (x2 : Int32) (x3 : Int32) (M : zH) (r : Int32) (M' : zH) (h : F_De_runYears n E S a0 a1 x2 x3 M = some (r, M')) : zC E Y_De_runYears [.ref a0, .ref a1, .int x2, .int x3] S M (some (.int r), S, M') :=
  zC.of (Or.inl (show plainName "NightColander$Deeds" = true by decide)) (Nat.le_of_ble_eq_true rfl) (trivial) (K_De_runYears n E S a0 a1 x2 x3 M r M' h)
theorem d_NC_years_0 : decode (yB Y_NC_years) 0 = .ok (.iload_n 1, 1) := by decide +kernel
theorem d_NC_years_1 : decode (yB Y_NC_years) 1 = .ok (.iconst 0, 1) := by decide +kernel
theorem d_NC_years_2 : decode (yB Y_NC_years) 2 = .ok (.ldc_w 313, 3) := by decide +kernel
theorem d_NC_years_5 : decode (yB Y_NC_years) 5 = .ok (.invokestatic 132, 3) := by decide +kernel
theorem d_NC_years_8 : decode (yB Y_NC_years) 8 = .ok (.ifCond .eq 13, 3) := by decide +kernel
theorem d_NC_years_11 : decode (yB Y_NC_years) 11 = .ok (.iload_n 2, 1) := by decide +kernel
theorem d_NC_years_12 : decode (yB Y_NC_years) 12 = .ok (.iconst 1, 1) := by decide +kernel
theorem d_NC_years_13 : decode (yB Y_NC_years) 13 = .ok (.bipush 60, 2) := by decide +kernel
theorem d_NC_years_15 : decode (yB Y_NC_years) 15 = .ok (.invokestatic 132, 3) := by decide +kernel
theorem d_NC_years_18 : decode (yB Y_NC_years) 18 = .ok (.ifCond .ne 9, 3) := by decide +kernel
theorem d_NC_years_21 : decode (yB Y_NC_years) 21 = .ok (.aload_n 0, 1) := by decide +kernel
theorem d_NC_years_22 : decode (yB Y_NC_years) 22 = .ok (.iconst (-1), 1) := by decide +kernel
theorem d_NC_years_23 : decode (yB Y_NC_years) 23 = .ok (.invokevirtual 136, 3) := by decide +kernel
theorem d_NC_years_26 : decode (yB Y_NC_years) 26 = .ok (.ireturn, 1) := by decide +kernel
theorem d_NC_years_27 : decode (yB Y_NC_years) 27 = .ok (.aload_n 0, 1) := by decide +kernel
theorem d_NC_years_28 : decode (yB Y_NC_years) 28 = .ok (.getfield 26, 3) := by decide +kernel
theorem d_NC_years_31 : decode (yB Y_NC_years) 31 = .ok (.aload_n 0, 1) := by decide +kernel
theorem d_NC_years_32 : decode (yB Y_NC_years) 32 = .ok (.getfield 12, 3) := by decide +kernel
theorem d_NC_years_35 : decode (yB Y_NC_years) 35 = .ok (.invokevirtual 229, 3) := by decide +kernel
theorem d_NC_years_38 : decode (yB Y_NC_years) 38 = .ok (.aload_n 0, 1) := by decide +kernel
theorem d_NC_years_39 : decode (yB Y_NC_years) 39 = .ok (.iconst 1, 1) := by decide +kernel
theorem d_NC_years_40 : decode (yB Y_NC_years) 40 = .ok (.putfield 94, 3) := by decide +kernel
theorem d_NC_years_43 : decode (yB Y_NC_years) 43 = .ok (.aload_n 0, 1) := by decide +kernel
theorem d_NC_years_44 : decode (yB Y_NC_years) 44 = .ok (.aload_n 0, 1) := by decide +kernel
theorem d_NC_years_45 : decode (yB Y_NC_years) 45 = .ok (.getfield 70, 3) := by decide +kernel
theorem d_NC_years_48 : decode (yB Y_NC_years) 48 = .ok (.aload_n 0, 1) := by decide +kernel
theorem d_NC_years_49 : decode (yB Y_NC_years) 49 = .ok (.getfield 26, 3) := by decide +kernel
theorem d_NC_years_52 : decode (yB Y_NC_years) 52 = .ok (.iload_n 1, 1) := by decide +kernel
theorem d_NC_years_53 : decode (yB Y_NC_years) 53 = .ok (.iload_n 2, 1) := by decide +kernel
theorem d_NC_years_54 : decode (yB Y_NC_years) 54 = .ok (.invokevirtual 314, 3) := by decide +kernel
theorem d_NC_years_57 : decode (yB Y_NC_years) 57 = .ok (.invokevirtual 146, 3) := by decide +kernel
theorem d_NC_years_60 : decode (yB Y_NC_years) 60 = .ok (.ireturn, 1) := by decide +kernel
def F_NC_years_b21 (n : Nat) (E : zE) (S : zS) (a0 : Nat) (M : zH) : Option (Int32 × zH) :=
  (zck S a0 10).bind fun u1 =>
  (F_NC_refuse n E S a0 (-1) M).bind fun q2 =>
  some (q2.1, q2.2)
def F_NC_years (n : Nat) (E : zE) (S : zS) (a0 : Nat) (x1 : Int32) (x2 : Int32) (M : zH) : Option (Int32 × zH) :=
  (F_NC_within n E S x1 0 1000000 M).bind fun q3 =>
  if q3.1 = true then
    (F_NC_within n E S x2 1 60 q3.2).bind fun q5 =>
    if q5.1 = true then
      (zgR S a0 10 3).bind fun b7 =>
      (zgR S a0 10 0).bind fun b8 =>
      (zck S b7 3).bind fun u9 =>
      (F_Ni_copyFrom n E S b7 b8 q5.2).bind fun q10 =>
      (zpZ S q10 a0 10 14 1).bind fun m11 =>
      (zgR S a0 10 10).bind fun b12 =>
      (zck S b12 0).bind fun u13 =>
      (F_De_runYears n E S b12 b7 x1 x2 m11).bind fun q14 =>
      (F_NC_accept n E S a0 q14.1 q14.2).bind fun q15 =>
      some (q15.1, q15.2)
    else
      F_NC_years_b21 n E S a0 q5.2
  else
    F_NC_years_b21 n E S a0 q3.2
theorem K_NC_years_b21 (n : Nat) (E : zE) (S : zS) (a0 : Nat) (M : zH) (r : Int32) (M' : zH)  (h : F_NC_years_b21 n E S a0 M = some (r, M')) : zG E Y_NC_years (some (.int r), S, M') 21 [(0, .ref a0)] [] S M 0 0 := by
  unfold F_NC_years_b21 at h
  refine zi_aload_n 0 d_NC_years_21 rfl ?_
  refine zi_iconst (-1) d_NC_years_22 rfl ?_
  obtain ⟨u1, eu1, h⟩ := zbind h
  obtain ⟨q2, eq2, h⟩ := zbind h
  refine zo_virt (k' := 0) (n' := 0) 26 [.int (-1)] [] [.int q2.1] zkd_10 (zck_s eu1) (C_NC_refuse n E S a0 (-1) M q2.1 q2.2 eq2) d_NC_years_23 tw_450 tw_447 tw_449 ts_1 tw_1 dd_NC_refuse ⟨Nat.le_of_ble_eq_true rfl, Nat.le_of_ble_eq_true rfl, Nat.le_of_ble_eq_true rfl, Nat.le_of_ble_eq_true rfl⟩ (Nat.le_of_ble_eq_true rfl) rfl rfl rfl rfl ?_
  cases h
  exact zo_ret d_NC_years_26 (Nat.le_of_ble_eq_true rfl) (Nat.le_of_ble_eq_true rfl) rfl
theorem K_NC_years (n : Nat) (E : zE) (S : zS) (a0 : Nat) (x1 : Int32) (x2 : Int32) (M : zH) (r : Int32) (M' : zH)  (h : F_NC_years n E S a0 x1 x2 M = some (r, M')) : zG E Y_NC_years (some (.int r), S, M') 0 [(0, .ref a0), (1, .int x1), (2, .int x2)] [] S M 0 0 := by
  unfold F_NC_years at h
  refine zi_iload_n 1 d_NC_years_0 rfl ?_
  refine zi_iconst 0 d_NC_years_1 rfl ?_
  refine zi_ldcw d_NC_years_2 tw_1160 ?_
  obtain ⟨q3, eq3, h⟩ := zbind h
  refine zo_stat (k' := 0) (n' := 0) 8 [.int x1, .int 0, .int 1000000] [] [.int (bI q3.1)] (C_NC_within n E S x1 0 1000000 M q3.1 q3.2 eq3) d_NC_years_5 tw_399 tw_397 tw_398 tw_1 dd_NC_within ⟨Nat.le_of_ble_eq_true rfl, Nat.le_of_ble_eq_true rfl, Nat.le_of_ble_eq_true rfl, Nat.le_of_ble_eq_true rfl⟩ (Nat.le_of_ble_eq_true rfl) rfl rfl rfl rfl ?_
  refine zo_ifeqB d_NC_years_8 rfl 11 rfl (fun c4 => ?_) (fun c4 => ?_)
  · rw [if_neg c4] at h
    refine zi_lo [(0, .ref a0)] [0] rfl ?_
    exact K_NC_years_b21 n E S a0 q3.2 r M'  h
  · rw [if_pos c4] at h
    refine zi_iload_n 2 d_NC_years_11 rfl ?_
    refine zi_iconst 1 d_NC_years_12 rfl ?_
    refine zi_bipush 60 d_NC_years_13 rfl ?_
    obtain ⟨q5, eq5, h⟩ := zbind h
    refine zo_stat (k' := 0) (n' := 0) 18 [.int x2, .int 1, .int 60] [] [.int (bI q5.1)] (C_NC_within n E S x2 1 60 q3.2 q5.1 q5.2 eq5) d_NC_years_15 tw_399 tw_397 tw_398 tw_1 dd_NC_within ⟨Nat.le_of_ble_eq_true rfl, Nat.le_of_ble_eq_true rfl, Nat.le_of_ble_eq_true rfl, Nat.le_of_ble_eq_true rfl⟩ (Nat.le_of_ble_eq_true rfl) rfl rfl rfl rfl ?_
    refine zo_ifneB d_NC_years_18 rfl 21 rfl (fun c6 => ?_) (fun c6 => ?_)
    · rw [if_pos c6] at h
      refine zi_aload_n 0 d_NC_years_27 rfl ?_
      obtain ⟨b7, eb7, h⟩ := zbind h
      refine zo_getR 31 zkd_10 3 d_NC_years_28 eb7 rfl tw_335 rfl ?_
      refine zi_aload_n 0 d_NC_years_31 rfl ?_
      obtain ⟨b8, eb8, h⟩ := zbind h
      refine zo_getR 35 zkd_10 0 d_NC_years_32 eb8 rfl tw_332 rfl ?_
      obtain ⟨u9, eu9, h⟩ := zbind h
      obtain ⟨q10, eq10, h⟩ := zbind h
      refine zo_virt (k' := 0) (n' := 0) 38 [.ref b8] [] [] zkd_3 (zck_s eu9) (C_Ni_copyFrom n E S b7 b8 q5.2 q10 eq10) d_NC_years_35 tw_867 tw_864 tw_865 tw_866 tw_2 dd_Ni_copyFrom ⟨Nat.le_of_ble_eq_true rfl, Nat.le_of_ble_eq_true rfl, Nat.le_of_ble_eq_true rfl, Nat.le_of_ble_eq_true rfl⟩ (Nat.le_of_ble_eq_true rfl) rfl rfl rfl rfl ?_
      refine zi_aload_n 0 d_NC_years_38 rfl ?_
      refine zi_iconst 1 d_NC_years_39 rfl ?_
      obtain ⟨m11, em11, h⟩ := zbind h
      refine zo_putZ 43 zkd_10 14 d_NC_years_40 em11 rfl rfl rfl tw_346 rfl ?_
      refine zi_aload_n 0 d_NC_years_43 rfl ?_
      refine zi_aload_n 0 d_NC_years_44 rfl ?_
      obtain ⟨b12, eb12, h⟩ := zbind h
      refine zo_getR 48 zkd_10 10 d_NC_years_45 eb12 rfl tw_342 rfl ?_
      refine zi_aload_n 0 d_NC_years_48 rfl ?_
      refine zo_getR 52 zkd_10 3 d_NC_years_49 eb7 rfl tw_335 rfl ?_
      refine zi_iload_n 1 d_NC_years_52 rfl ?_
      refine zi_iload_n 2 d_NC_years_53 rfl ?_
      obtain ⟨u13, eu13, h⟩ := zbind h
      obtain ⟨q14, eq14, h⟩ := zbind h
      refine zo_virt (k' := 0) (n' := 0) 57 [.ref b7, .int x1, .int x2] [.ref a0] [.int q14.1, .ref a0] zkd_0 (zck_s eu13) (C_De_runYears n E S b12 b7 x1 x2 m11 q14.1 q14.2 eq14) d_NC_years_54 tw_1164 tw_1161 tw_1162 tw_1163 tw_10 dd_De_runYears ⟨Nat.le_of_ble_eq_true rfl, Nat.le_of_ble_eq_true rfl, Nat.le_of_ble_eq_true rfl, Nat.le_of_ble_eq_true rfl⟩ (Nat.le_of_ble_eq_true rfl) rfl rfl rfl rfl ?_
      obtain ⟨q15, eq15, h⟩ := zbind h
      refine zo_virt (k' := 0) (n' := 0) 60 [.int q14.1] [] [.int q15.1] zkd_10 (zgR_s eb7).1 (C_NC_accept n E S a0 q14.1 q14.2 q15.1 q15.2 eq15) d_NC_years_57 tw_458 tw_455 tw_457 ts_2 tw_1 dd_NC_accept ⟨Nat.le_of_ble_eq_true rfl, Nat.le_of_ble_eq_true rfl, Nat.le_of_ble_eq_true rfl, Nat.le_of_ble_eq_true rfl⟩ (Nat.le_of_ble_eq_true rfl) rfl rfl rfl rfl ?_
      cases h
      exact zo_ret d_NC_years_60 (Nat.le_of_ble_eq_true rfl) (Nat.le_of_ble_eq_true rfl) rfl
    · rw [if_neg c6] at h
      refine zi_lo [(0, .ref a0)] [0] rfl ?_
      exact K_NC_years_b21 n E S a0 q5.2 r M'  h
theorem C_NC_years (n : Nat) (E : zE) (S : zS) (a0 : Nat) (x1 : Int32) (x2 : Int32) (M : zH) (r : Int32) (M' : zH) (h : F_NC_years n E S a0 x1 x2 M = some (r, M')) : zC E Y_NC_years [.ref a0, .int x1, .int x2] S M (some (.int r), S, M') :=
  zC.of (Or.inl (show plainName "NightColander" = true by decide)) (Nat.le_of_ble_eq_true rfl) (trivial) (K_NC_years n E S a0 x1 x2 M r M' h)
theorem d_Ni_boresOfRing_0 : decode (yB Y_Ni_boresOfRing) 0 = .ok (.iconst 0, 1) := by decide +kernel
theorem d_Ni_boresOfRing_1 : decode (yB Y_Ni_boresOfRing) 1 = .ok (.istore_n 2, 1) := by decide +kernel
theorem d_Ni_boresOfRing_2 : decode (yB Y_Ni_boresOfRing) 2 = .ok (.iconst 0, 1) := by decide +kernel
theorem d_Ni_boresOfRing_3 : decode (yB Y_Ni_boresOfRing) 3 = .ok (.istore_n 3, 1) := by decide +kernel
theorem d_Ni_boresOfRing_4 : decode (yB Y_Ni_boresOfRing) 4 = .ok (.iload_n 3, 1) := by decide +kernel
theorem d_Ni_boresOfRing_5 : decode (yB Y_Ni_boresOfRing) 5 = .ok (.bipush 8, 2) := by decide +kernel
theorem d_Ni_boresOfRing_7 : decode (yB Y_Ni_boresOfRing) 7 = .ok (.if_icmp .ge 23, 3) := by decide +kernel
theorem d_Ni_boresOfRing_10 : decode (yB Y_Ni_boresOfRing) 10 = .ok (.iload_n 2, 1) := by decide +kernel
theorem d_Ni_boresOfRing_11 : decode (yB Y_Ni_boresOfRing) 11 = .ok (.aload_n 0, 1) := by decide +kernel
theorem d_Ni_boresOfRing_12 : decode (yB Y_Ni_boresOfRing) 12 = .ok (.getfield 9, 3) := by decide +kernel
theorem d_Ni_boresOfRing_15 : decode (yB Y_Ni_boresOfRing) 15 = .ok (.iload_n 1, 1) := by decide +kernel
theorem d_Ni_boresOfRing_16 : decode (yB Y_Ni_boresOfRing) 16 = .ok (.bipush 8, 2) := by decide +kernel
theorem d_Ni_boresOfRing_18 : decode (yB Y_Ni_boresOfRing) 18 = .ok (.imul, 1) := by decide +kernel
theorem d_Ni_boresOfRing_19 : decode (yB Y_Ni_boresOfRing) 19 = .ok (.iload_n 3, 1) := by decide +kernel
theorem d_Ni_boresOfRing_20 : decode (yB Y_Ni_boresOfRing) 20 = .ok (.iadd, 1) := by decide +kernel
theorem d_Ni_boresOfRing_21 : decode (yB Y_Ni_boresOfRing) 21 = .ok (.iaload, 1) := by decide +kernel
theorem d_Ni_boresOfRing_22 : decode (yB Y_Ni_boresOfRing) 22 = .ok (.iadd, 1) := by decide +kernel
theorem d_Ni_boresOfRing_23 : decode (yB Y_Ni_boresOfRing) 23 = .ok (.istore_n 2, 1) := by decide +kernel
theorem d_Ni_boresOfRing_24 : decode (yB Y_Ni_boresOfRing) 24 = .ok (.iinc 3 1, 3) := by decide +kernel
theorem d_Ni_boresOfRing_27 : decode (yB Y_Ni_boresOfRing) 27 = .ok (.goto (-23), 3) := by decide +kernel
theorem d_Ni_boresOfRing_30 : decode (yB Y_Ni_boresOfRing) 30 = .ok (.iload_n 2, 1) := by decide +kernel
theorem d_Ni_boresOfRing_31 : decode (yB Y_Ni_boresOfRing) 31 = .ok (.ireturn, 1) := by decide +kernel
def F_Ni_boresOfRing_L4 (n : Nat) (E : zE) (S : zS) (r4 : Nat × Int32 × Int32 × Int32 × zH → Option (Int32 × zH)) (a0 : Nat) (x1 : Int32) (x2 : Int32) (x3 : Int32) (M : zH) : Option (Int32 × zH) :=
  if 8 ≤ x3 then
    some (x2, M)
  else
    (zgR S a0 3 0).bind fun b2 =>
    (zldI S M b2 ((x1 * 8) + x3)).bind fun v3 =>
    r4 (a0, x1, x2 + v3, x3 + 1, M)
def F_Ni_boresOfRing_b4 (n : Nat) (E : zE) (S : zS) : Nat × Int32 × Int32 × Int32 × zH → Option (Int32 × zH) := zfix (fun r4 s => F_Ni_boresOfRing_L4 n E S r4 s.1 s.2.1 s.2.2.1 s.2.2.2.1 s.2.2.2.2) n
def F_Ni_boresOfRing (n : Nat) (E : zE) (S : zS) (a0 : Nat) (x1 : Int32) (M : zH) : Option (Int32 × zH) :=
  F_Ni_boresOfRing_b4 n E S (a0, x1, 0, 0, M)
theorem K_Ni_boresOfRing_L4 (n : Nat) (E : zE) (S : zS) (r4 : Nat × Int32 × Int32 × Int32 × zH → Option (Int32 × zH)) (a0 : Nat) (x1 : Int32) (x2 : Int32) (x3 : Int32) (M : zH) (r : Int32) (M' : zH) (hr4 : ∀ (a0 : Nat) (x1 : Int32) (x2 : Int32) (x3 : Int32) (M : zH), r4 (a0, x1, x2, x3, M) = some (r, M') → zG E Y_Ni_boresOfRing (some (.int r), S, M') 4 [(0, .ref a0), (1, .int x1), (2, .int x2), (3, .int x3)] [] S M 0 0) (h : F_Ni_boresOfRing_L4 n E S r4 a0 x1 x2 x3 M = some (r, M')) : zG E Y_Ni_boresOfRing (some (.int r), S, M') 4 [(0, .ref a0), (1, .int x1), (2, .int x2), (3, .int x3)] [] S M 0 0 := by
  unfold F_Ni_boresOfRing_L4 at h
  refine zi_iload_n 3 d_Ni_boresOfRing_4 rfl ?_
  refine zi_bipush 8 d_Ni_boresOfRing_5 rfl ?_
  refine zi_icmp_ge (tgt := 30) d_Ni_boresOfRing_7 rfl (fun c1 => ?_) (fun c1 => ?_)
  · rw [if_pos c1] at h
    refine zi_iload_n 2 d_Ni_boresOfRing_30 rfl ?_
    cases h
    exact zo_ret d_Ni_boresOfRing_31 (Nat.le_of_ble_eq_true rfl) (Nat.le_of_ble_eq_true rfl) rfl
  · rw [if_neg c1] at h
    refine zi_iload_n 2 d_Ni_boresOfRing_10 rfl ?_
    refine zi_aload_n 0 d_Ni_boresOfRing_11 rfl ?_
    obtain ⟨b2, eb2, h⟩ := zbind h
    refine zo_getR 15 zkd_3 0 d_Ni_boresOfRing_12 eb2 rfl tw_41 rfl ?_
    refine zi_iload_n 1 d_Ni_boresOfRing_15 rfl ?_
    refine zi_bipush 8 d_Ni_boresOfRing_16 rfl ?_
    refine zi_imul d_Ni_boresOfRing_18 ?_
    refine zi_iload_n 3 d_Ni_boresOfRing_19 rfl ?_
    refine zi_iadd d_Ni_boresOfRing_20 ?_
    obtain ⟨v3, ev3, h⟩ := zbind h
    refine zo_iald 22 d_Ni_boresOfRing_21 ev3 rfl ?_
    refine zi_iadd d_Ni_boresOfRing_22 ?_
    refine zi_istore_n [(2, .int (x2 + v3)), (0, .ref a0), (1, .int x1), (3, .int x3)] d_Ni_boresOfRing_23 (by decide) rfl ?_
    refine zi_iinc 3 (x3 + 1) [(3, .int (x3 + 1)), (2, .int (x2 + v3)), (0, .ref a0), (1, .int x1)] d_Ni_boresOfRing_24 rfl rfl (by decide) rfl ?_
    refine zi_goto (tgt := 4) d_Ni_boresOfRing_27 rfl ?_
    refine zi_lo [(0, .ref a0), (1, .int x1), (2, .int (x2 + v3)), (3, .int (x3 + 1))] [2, 3, 1, 0] rfl ?_
    exact hr4 a0 x1 (x2 + v3) (x3 + 1) M h
theorem K_Ni_boresOfRing_b4 (n : Nat) (E : zE) (S : zS) (a0 : Nat) (x1 : Int32) (x2 : Int32) (x3 : Int32) (M : zH) (r : Int32) (M' : zH)  (h : F_Ni_boresOfRing_b4 n E S (a0, x1, x2, x3, M) = some (r, M')) : zG E Y_Ni_boresOfRing (some (.int r), S, M') 4 [(0, .ref a0), (1, .int x1), (2, .int x2), (3, .int x3)] [] S M 0 0 := by
  have key : ∀ (k : Nat) (a0 : Nat) (x1 : Int32) (x2 : Int32) (x3 : Int32) (M : zH), zfix (fun r4 s => F_Ni_boresOfRing_L4 n E S r4 s.1 s.2.1 s.2.2.1 s.2.2.2.1 s.2.2.2.2) k (a0, x1, x2, x3, M) = some (r, M') → zG E Y_Ni_boresOfRing (some (.int r), S, M') 4 [(0, .ref a0), (1, .int x1), (2, .int x2), (3, .int x3)] [] S M 0 0 := by
    intro k
    induction k with
    | zero => intro a0 x1 x2 x3 M h; cases h
    | succ k ih => intro a0 x1 x2 x3 M h; exact K_Ni_boresOfRing_L4 n E S _ a0 x1 x2 x3 M r M'  (fun a0 x1 x2 x3 M h => ih a0 x1 x2 x3 M h) h
  exact key n a0 x1 x2 x3 M h
theorem K_Ni_boresOfRing (n : Nat) (E : zE) (S : zS) (a0 : Nat) (x1 : Int32) (M : zH) (r : Int32) (M' : zH)  (h : F_Ni_boresOfRing n E S a0 x1 M = some (r, M')) : zG E Y_Ni_boresOfRing (some (.int r), S, M') 0 [(0, .ref a0), (1, .int x1)] [] S M 0 0 := by
  unfold F_Ni_boresOfRing at h
  refine zi_iconst 0 d_Ni_boresOfRing_0 rfl ?_
  refine zi_istore_n [(2, .int 0), (0, .ref a0), (1, .int x1)] d_Ni_boresOfRing_1 (by decide) rfl ?_
  refine zi_iconst 0 d_Ni_boresOfRing_2 rfl ?_
  refine zi_istore_n [(3, .int 0), (2, .int 0), (0, .ref a0), (1, .int x1)] d_Ni_boresOfRing_3 (by decide) rfl ?_
  refine zi_lo [(0, .ref a0), (1, .int x1), (2, .int 0), (3, .int 0)] [2, 3, 1, 0] rfl ?_
  exact K_Ni_boresOfRing_b4 n E S a0 x1 0 0 M r M'  h
theorem C_Ni_boresOfRing (n : Nat) (E : zE) (S : zS) (a0 : Nat) (x1 : Int32) (M : zH) (r : Int32) (M' : zH) (h : F_Ni_boresOfRing n E S a0 x1 M = some (r, M')) : zC E Y_Ni_boresOfRing [.ref a0, .int x1] S M (some (.int r), S, M') :=
  zC.of (Or.inl (show plainName "NightColander$Night" = true by decide)) (Nat.le_of_ble_eq_true rfl) (trivial) (K_Ni_boresOfRing n E S a0 x1 M r M' h)
theorem d_NC_drawn_0 : decode (yB Y_NC_drawn) 0 = .ok (.aload_n 0, 1) := by decide +kernel
theorem d_NC_drawn_1 : decode (yB Y_NC_drawn) 1 = .ok (.getfield 94, 3) := by decide +kernel
theorem d_NC_drawn_4 : decode (yB Y_NC_drawn) 4 = .ok (.ifCond .ne 5, 3) := by decide +kernel
theorem d_NC_drawn_7 : decode (yB Y_NC_drawn) 7 = .ok (.iconst (-1), 1) := by decide +kernel
theorem d_NC_drawn_8 : decode (yB Y_NC_drawn) 8 = .ok (.ireturn, 1) := by decide +kernel
theorem d_NC_drawn_9 : decode (yB Y_NC_drawn) 9 = .ok (.iload_n 2, 1) := by decide +kernel
theorem d_NC_drawn_10 : decode (yB Y_NC_drawn) 10 = .ok (.tableswitch 92 0 2 #[26, 46, 67], 26) := by decide +kernel
theorem d_NC_drawn_36 : decode (yB Y_NC_drawn) 36 = .ok (.iload_n 1, 1) := by decide +kernel
theorem d_NC_drawn_37 : decode (yB Y_NC_drawn) 37 = .ok (.invokestatic 111, 3) := by decide +kernel
theorem d_NC_drawn_40 : decode (yB Y_NC_drawn) 40 = .ok (.ifCond .eq 14, 3) := by decide +kernel
theorem d_NC_drawn_43 : decode (yB Y_NC_drawn) 43 = .ok (.aload_n 0, 1) := by decide +kernel
theorem d_NC_drawn_44 : decode (yB Y_NC_drawn) 44 = .ok (.getfield 26, 3) := by decide +kernel
theorem d_NC_drawn_47 : decode (yB Y_NC_drawn) 47 = .ok (.iload_n 1, 1) := by decide +kernel
theorem d_NC_drawn_48 : decode (yB Y_NC_drawn) 48 = .ok (.invokevirtual 317, 3) := by decide +kernel
theorem d_NC_drawn_51 : decode (yB Y_NC_drawn) 51 = .ok (.goto 4, 3) := by decide +kernel
theorem d_NC_drawn_54 : decode (yB Y_NC_drawn) 54 = .ok (.iconst (-1), 1) := by decide +kernel
theorem d_NC_drawn_55 : decode (yB Y_NC_drawn) 55 = .ok (.ireturn, 1) := by decide +kernel
theorem d_NC_drawn_56 : decode (yB Y_NC_drawn) 56 = .ok (.iload_n 1, 1) := by decide +kernel
theorem d_NC_drawn_57 : decode (yB Y_NC_drawn) 57 = .ok (.invokestatic 111, 3) := by decide +kernel
theorem d_NC_drawn_60 : decode (yB Y_NC_drawn) 60 = .ok (.ifCond .eq 15, 3) := by decide +kernel
theorem d_NC_drawn_63 : decode (yB Y_NC_drawn) 63 = .ok (.aload_n 0, 1) := by decide +kernel
theorem d_NC_drawn_64 : decode (yB Y_NC_drawn) 64 = .ok (.getfield 26, 3) := by decide +kernel
theorem d_NC_drawn_67 : decode (yB Y_NC_drawn) 67 = .ok (.getfield 140, 3) := by decide +kernel
theorem d_NC_drawn_70 : decode (yB Y_NC_drawn) 70 = .ok (.iload_n 1, 1) := by decide +kernel
theorem d_NC_drawn_71 : decode (yB Y_NC_drawn) 71 = .ok (.iaload, 1) := by decide +kernel
theorem d_NC_drawn_72 : decode (yB Y_NC_drawn) 72 = .ok (.goto 4, 3) := by decide +kernel
theorem d_NC_drawn_75 : decode (yB Y_NC_drawn) 75 = .ok (.iconst (-1), 1) := by decide +kernel
theorem d_NC_drawn_76 : decode (yB Y_NC_drawn) 76 = .ok (.ireturn, 1) := by decide +kernel
theorem d_NC_drawn_77 : decode (yB Y_NC_drawn) 77 = .ok (.aload_n 0, 1) := by decide +kernel
theorem d_NC_drawn_78 : decode (yB Y_NC_drawn) 78 = .ok (.getfield 26, 3) := by decide +kernel
theorem d_NC_drawn_81 : decode (yB Y_NC_drawn) 81 = .ok (.iload_n 1, 1) := by decide +kernel
theorem d_NC_drawn_82 : decode (yB Y_NC_drawn) 82 = .ok (.invokevirtual 161, 3) := by decide +kernel
theorem d_NC_drawn_85 : decode (yB Y_NC_drawn) 85 = .ok (.ifCond .eq 15, 3) := by decide +kernel
theorem d_NC_drawn_88 : decode (yB Y_NC_drawn) 88 = .ok (.aload_n 0, 1) := by decide +kernel
theorem d_NC_drawn_89 : decode (yB Y_NC_drawn) 89 = .ok (.getfield 26, 3) := by decide +kernel
theorem d_NC_drawn_92 : decode (yB Y_NC_drawn) 92 = .ok (.getfield 167, 3) := by decide +kernel
theorem d_NC_drawn_95 : decode (yB Y_NC_drawn) 95 = .ok (.iload_n 1, 1) := by decide +kernel
theorem d_NC_drawn_96 : decode (yB Y_NC_drawn) 96 = .ok (.iaload, 1) := by decide +kernel
theorem d_NC_drawn_97 : decode (yB Y_NC_drawn) 97 = .ok (.goto 4, 3) := by decide +kernel
theorem d_NC_drawn_100 : decode (yB Y_NC_drawn) 100 = .ok (.iconst (-1), 1) := by decide +kernel
theorem d_NC_drawn_101 : decode (yB Y_NC_drawn) 101 = .ok (.ireturn, 1) := by decide +kernel
theorem d_NC_drawn_102 : decode (yB Y_NC_drawn) 102 = .ok (.iconst (-1), 1) := by decide +kernel
theorem d_NC_drawn_103 : decode (yB Y_NC_drawn) 103 = .ok (.ireturn, 1) := by decide +kernel
def F_NC_drawn (n : Nat) (E : zE) (S : zS) (a0 : Nat) (x1 : Int32) (x2 : Int32) (M : zH) : Option (Int32 × zH) :=
  (zgI S M a0 10 14).bind fun v1 =>
  if v1 = 0 then
    some ((-1), M)
  else
    if x2 = 0 then
      (F_NC_isRing n E S x1 M).bind fun q4 =>
      if q4.1 = true then
        (zgR S a0 10 3).bind fun b6 =>
        (zck S b6 3).bind fun u7 =>
        (F_Ni_boresOfRing n E S b6 x1 q4.2).bind fun q8 =>
        some (q8.1, q8.2)
      else
        some ((-1), q4.2)
    else
    if x2 = 1 then
      (F_NC_isRing n E S x1 M).bind fun q10 =>
      if q10.1 = true then
        (zgR S a0 10 3).bind fun b12 =>
        (zgR S b12 3 2).bind fun b13 =>
        (zldI S q10.2 b13 x1).bind fun v14 =>
        some (v14, q10.2)
      else
        some ((-1), q10.2)
    else
    if x2 = 2 then
      (zgR S a0 10 3).bind fun b16 =>
      (zck S b16 3).bind fun u17 =>
      (F_Ni_hasBucket n E S b16 x1 M).bind fun q18 =>
      if q18.1 = true then
        (zgR S b16 3 4).bind fun b20 =>
        (zldI S q18.2 b20 x1).bind fun v21 =>
        some (v21, q18.2)
      else
        some ((-1), q18.2)
    else
      some ((-1), M)
theorem K_NC_drawn (n : Nat) (E : zE) (S : zS) (a0 : Nat) (x1 : Int32) (x2 : Int32) (M : zH) (r : Int32) (M' : zH)  (h : F_NC_drawn n E S a0 x1 x2 M = some (r, M')) : zG E Y_NC_drawn (some (.int r), S, M') 0 [(0, .ref a0), (1, .int x1), (2, .int x2)] [] S M 0 0 := by
  unfold F_NC_drawn at h
  refine zi_aload_n 0 d_NC_drawn_0 rfl ?_
  obtain ⟨v1, ev1, h⟩ := zbind h
  refine zo_getI 4 zkd_10 14 d_NC_drawn_1 ev1 rfl tw_346 rfl ?_
  refine zi_if_ne (tgt := 9) d_NC_drawn_4 rfl (fun c2 => ?_) (fun c2 => ?_)
  · rw [if_neg c2] at h
    refine zi_iload_n 2 d_NC_drawn_9 rfl ?_
    by_cases c3 : x2 = 0
    · rw [if_pos c3] at h
      refine zo_tab (tgt := 36) 0 d_NC_drawn_10 c3 (by decide) (by decide) rfl rfl ?_
      refine zi_iload_n 1 d_NC_drawn_36 rfl ?_
      obtain ⟨q4, eq4, h⟩ := zbind h
      refine zo_stat (k' := 0) (n' := 0) 40 [.int x1] [] [.int (bI q4.1)] (C_NC_isRing n E S x1 M q4.1 q4.2 eq4) d_NC_drawn_37 tw_396 tw_394 tw_395 tw_1 dd_NC_isRing ⟨Nat.le_of_ble_eq_true rfl, Nat.le_of_ble_eq_true rfl, Nat.le_of_ble_eq_true rfl, Nat.le_of_ble_eq_true rfl⟩ (Nat.le_of_ble_eq_true rfl) rfl rfl rfl rfl ?_
      refine zo_ifeqB d_NC_drawn_40 rfl 43 rfl (fun c5 => ?_) (fun c5 => ?_)
      · rw [if_neg c5] at h
        refine zi_iconst (-1) d_NC_drawn_54 rfl ?_
        cases h
        exact zo_ret d_NC_drawn_55 (Nat.le_of_ble_eq_true rfl) (Nat.le_of_ble_eq_true rfl) rfl
      · rw [if_pos c5] at h
        refine zi_aload_n 0 d_NC_drawn_43 rfl ?_
        obtain ⟨b6, eb6, h⟩ := zbind h
        refine zo_getR 47 zkd_10 3 d_NC_drawn_44 eb6 rfl tw_335 rfl ?_
        refine zi_iload_n 1 d_NC_drawn_47 rfl ?_
        obtain ⟨u7, eu7, h⟩ := zbind h
        obtain ⟨q8, eq8, h⟩ := zbind h
        refine zo_virt (k' := 0) (n' := 0) 51 [.int x1] [] [.int q8.1] zkd_3 (zck_s eu7) (C_Ni_boresOfRing n E S b6 x1 q4.2 q8.1 q8.2 eq8) d_NC_drawn_48 tw_1181 tw_1178 tw_1179 tw_1180 tw_2 dd_Ni_boresOfRing ⟨Nat.le_of_ble_eq_true rfl, Nat.le_of_ble_eq_true rfl, Nat.le_of_ble_eq_true rfl, Nat.le_of_ble_eq_true rfl⟩ (Nat.le_of_ble_eq_true rfl) rfl rfl rfl rfl ?_
        refine zi_goto (tgt := 55) d_NC_drawn_51 rfl ?_
        cases h
        exact zo_ret d_NC_drawn_55 (Nat.le_of_ble_eq_true rfl) (Nat.le_of_ble_eq_true rfl) rfl
    rw [if_neg c3] at h
    by_cases c9 : x2 = 1
    · rw [if_pos c9] at h
      refine zo_tab (tgt := 56) 1 d_NC_drawn_10 c9 (by decide) (by decide) rfl rfl ?_
      refine zi_iload_n 1 d_NC_drawn_56 rfl ?_
      obtain ⟨q10, eq10, h⟩ := zbind h
      refine zo_stat (k' := 0) (n' := 0) 60 [.int x1] [] [.int (bI q10.1)] (C_NC_isRing n E S x1 M q10.1 q10.2 eq10) d_NC_drawn_57 tw_396 tw_394 tw_395 tw_1 dd_NC_isRing ⟨Nat.le_of_ble_eq_true rfl, Nat.le_of_ble_eq_true rfl, Nat.le_of_ble_eq_true rfl, Nat.le_of_ble_eq_true rfl⟩ (Nat.le_of_ble_eq_true rfl) rfl rfl rfl rfl ?_
      refine zo_ifeqB d_NC_drawn_60 rfl 63 rfl (fun c11 => ?_) (fun c11 => ?_)
      · rw [if_neg c11] at h
        refine zi_iconst (-1) d_NC_drawn_75 rfl ?_
        cases h
        exact zo_ret d_NC_drawn_76 (Nat.le_of_ble_eq_true rfl) (Nat.le_of_ble_eq_true rfl) rfl
      · rw [if_pos c11] at h
        refine zi_aload_n 0 d_NC_drawn_63 rfl ?_
        obtain ⟨b12, eb12, h⟩ := zbind h
        refine zo_getR 67 zkd_10 3 d_NC_drawn_64 eb12 rfl tw_335 rfl ?_
        obtain ⟨b13, eb13, h⟩ := zbind h
        refine zo_getR 70 zkd_3 2 d_NC_drawn_67 eb13 rfl tw_53 rfl ?_
        refine zi_iload_n 1 d_NC_drawn_70 rfl ?_
        obtain ⟨v14, ev14, h⟩ := zbind h
        refine zo_iald 72 d_NC_drawn_71 ev14 rfl ?_
        refine zi_goto (tgt := 76) d_NC_drawn_72 rfl ?_
        cases h
        exact zo_ret d_NC_drawn_76 (Nat.le_of_ble_eq_true rfl) (Nat.le_of_ble_eq_true rfl) rfl
    rw [if_neg c9] at h
    by_cases c15 : x2 = 2
    · rw [if_pos c15] at h
      refine zo_tab (tgt := 77) 2 d_NC_drawn_10 c15 (by decide) (by decide) rfl rfl ?_
      refine zi_aload_n 0 d_NC_drawn_77 rfl ?_
      obtain ⟨b16, eb16, h⟩ := zbind h
      refine zo_getR 81 zkd_10 3 d_NC_drawn_78 eb16 rfl tw_335 rfl ?_
      refine zi_iload_n 1 d_NC_drawn_81 rfl ?_
      obtain ⟨u17, eu17, h⟩ := zbind h
      obtain ⟨q18, eq18, h⟩ := zbind h
      refine zo_virt (k' := 0) (n' := 0) 85 [.int x1] [] [.int (bI q18.1)] zkd_3 (zck_s eu17) (C_Ni_hasBucket n E S b16 x1 M q18.1 q18.2 eq18) d_NC_drawn_82 tw_481 tw_478 tw_479 tw_480 tw_2 dd_Ni_hasBucket ⟨Nat.le_of_ble_eq_true rfl, Nat.le_of_ble_eq_true rfl, Nat.le_of_ble_eq_true rfl, Nat.le_of_ble_eq_true rfl⟩ (Nat.le_of_ble_eq_true rfl) rfl rfl rfl rfl ?_
      refine zo_ifeqB d_NC_drawn_85 rfl 88 rfl (fun c19 => ?_) (fun c19 => ?_)
      · rw [if_neg c19] at h
        refine zi_iconst (-1) d_NC_drawn_100 rfl ?_
        cases h
        exact zo_ret d_NC_drawn_101 (Nat.le_of_ble_eq_true rfl) (Nat.le_of_ble_eq_true rfl) rfl
      · rw [if_pos c19] at h
        refine zi_aload_n 0 d_NC_drawn_88 rfl ?_
        refine zo_getR 92 zkd_10 3 d_NC_drawn_89 eb16 rfl tw_335 rfl ?_
        obtain ⟨b20, eb20, h⟩ := zbind h
        refine zo_getR 95 zkd_3 4 d_NC_drawn_92 eb20 rfl tw_63 rfl ?_
        refine zi_iload_n 1 d_NC_drawn_95 rfl ?_
        obtain ⟨v21, ev21, h⟩ := zbind h
        refine zo_iald 97 d_NC_drawn_96 ev21 rfl ?_
        refine zi_goto (tgt := 101) d_NC_drawn_97 rfl ?_
        cases h
        exact zo_ret d_NC_drawn_101 (Nat.le_of_ble_eq_true rfl) (Nat.le_of_ble_eq_true rfl) rfl
    rw [if_neg c15] at h
    refine zo_tabP (tgt := 102) 0 3 d_NC_drawn_10 rfl rfl (fun j hj => by match j, hj with | 0, _ => exact c3  | 1, _ => exact c9  | 2, _ => exact c15 | j + 3, hj => exact absurd hj (by omega)) rfl ?_
    refine zi_iconst (-1) d_NC_drawn_102 rfl ?_
    cases h
    exact zo_ret d_NC_drawn_103 (Nat.le_of_ble_eq_true rfl) (Nat.le_of_ble_eq_true rfl) rfl
  · rw [if_pos c2] at h
    refine zi_iconst (-1) d_NC_drawn_7 rfl ?_
    cases h
    exact zo_ret d_NC_drawn_8 (Nat.le_of_ble_eq_true rfl) (Nat.le_of_ble_eq_true rfl) rfl
theorem C_NC_drawn (n : Nat) (E : zE) (S : zS) (a0 : Nat) (x1 : Int32) (x2 : Int32) (M : zH) (r : Int32) (M' : zH) (h : F_NC_drawn n E S a0 x1 x2 M = some (r, M')) : zC E Y_NC_drawn [.ref a0, .int x1, .int x2] S M (some (.int r), S, M') :=
  zC.of (Or.inl (show plainName "NightColander" = true by decide)) (Nat.le_of_ble_eq_true rfl) (trivial) (K_NC_drawn n E S a0 x1 x2 M r M' h)
theorem d_NC_image_0 : decode (yB Y_NC_image) 0 = .ok (.iload_n 1, 1) := by decide +kernel
theorem d_NC_image_1 : decode (yB Y_NC_image) 1 = .ok (.iconst 0, 1) := by decide +kernel
theorem d_NC_image_2 : decode (yB Y_NC_image) 2 = .ok (.iconst 1, 1) := by decide +kernel
theorem d_NC_image_3 : decode (yB Y_NC_image) 3 = .ok (.invokestatic 132, 3) := by decide +kernel
theorem d_NC_image_6 : decode (yB Y_NC_image) 6 = .ok (.ifCond .ne 9, 3) := by decide +kernel
theorem d_NC_image_9 : decode (yB Y_NC_image) 9 = .ok (.aload_n 0, 1) := by decide +kernel
theorem d_NC_image_10 : decode (yB Y_NC_image) 10 = .ok (.iconst (-1), 1) := by decide +kernel
theorem d_NC_image_11 : decode (yB Y_NC_image) 11 = .ok (.invokevirtual 136, 3) := by decide +kernel
theorem d_NC_image_14 : decode (yB Y_NC_image) 14 = .ok (.ireturn, 1) := by decide +kernel
theorem d_NC_image_15 : decode (yB Y_NC_image) 15 = .ok (.aload_n 0, 1) := by decide +kernel
theorem d_NC_image_16 : decode (yB Y_NC_image) 16 = .ok (.getfield 18, 3) := by decide +kernel
theorem d_NC_image_19 : decode (yB Y_NC_image) 19 = .ok (.iload_n 1, 1) := by decide +kernel
theorem d_NC_image_20 : decode (yB Y_NC_image) 20 = .ok (.aaload, 1) := by decide +kernel
theorem d_NC_image_21 : decode (yB Y_NC_image) 21 = .ok (.aload_n 0, 1) := by decide +kernel
theorem d_NC_image_22 : decode (yB Y_NC_image) 22 = .ok (.getfield 12, 3) := by decide +kernel
theorem d_NC_image_25 : decode (yB Y_NC_image) 25 = .ok (.invokevirtual 229, 3) := by decide +kernel
theorem d_NC_image_28 : decode (yB Y_NC_image) 28 = .ok (.aload_n 0, 1) := by decide +kernel
theorem d_NC_image_29 : decode (yB Y_NC_image) 29 = .ok (.getfield 22, 3) := by decide +kernel
theorem d_NC_image_32 : decode (yB Y_NC_image) 32 = .ok (.iload_n 1, 1) := by decide +kernel
theorem d_NC_image_33 : decode (yB Y_NC_image) 33 = .ok (.iconst 1, 1) := by decide +kernel
theorem d_NC_image_34 : decode (yB Y_NC_image) 34 = .ok (.bastore, 1) := by decide +kernel
theorem d_NC_image_35 : decode (yB Y_NC_image) 35 = .ok (.aload_n 0, 1) := by decide +kernel
theorem d_NC_image_36 : decode (yB Y_NC_image) 36 = .ok (.iconst 0, 1) := by decide +kernel
theorem d_NC_image_37 : decode (yB Y_NC_image) 37 = .ok (.invokevirtual 146, 3) := by decide +kernel
theorem d_NC_image_40 : decode (yB Y_NC_image) 40 = .ok (.ireturn, 1) := by decide +kernel
def F_NC_image (n : Nat) (E : zE) (S : zS) (a0 : Nat) (x1 : Int32) (M : zH) : Option (Int32 × zH) :=
  (F_NC_within n E S x1 0 1 M).bind fun q1 =>
  if q1.1 = true then
    (zgR S a0 10 1).bind fun b3 =>
    (zldR S q1.2 17 b3 x1).bind fun o4 =>
    (zgR S a0 10 0).bind fun b5 =>
    (o4).bind fun g6 =>
    (zck S g6 3).bind fun u7 =>
    (F_Ni_copyFrom n E S g6 b5 q1.2).bind fun q8 =>
    (zgR S a0 10 2).bind fun b9 =>
    (zstZ S q8 b9 x1 1).bind fun m10 =>
    (F_NC_accept n E S a0 0 m10).bind fun q11 =>
    some (q11.1, q11.2)
  else
    (zck S a0 10).bind fun u12 =>
    (F_NC_refuse n E S a0 (-1) q1.2).bind fun q13 =>
    some (q13.1, q13.2)
theorem K_NC_image (n : Nat) (E : zE) (S : zS) (a0 : Nat) (x1 : Int32) (M : zH) (r : Int32) (M' : zH)  (h : F_NC_image n E S a0 x1 M = some (r, M')) : zG E Y_NC_image (some (.int r), S, M') 0 [(0, .ref a0), (1, .int x1)] [] S M 0 0 := by
  unfold F_NC_image at h
  refine zi_iload_n 1 d_NC_image_0 rfl ?_
  refine zi_iconst 0 d_NC_image_1 rfl ?_
  refine zi_iconst 1 d_NC_image_2 rfl ?_
  obtain ⟨q1, eq1, h⟩ := zbind h
  refine zo_stat (k' := 0) (n' := 0) 6 [.int x1, .int 0, .int 1] [] [.int (bI q1.1)] (C_NC_within n E S x1 0 1 M q1.1 q1.2 eq1) d_NC_image_3 tw_399 tw_397 tw_398 tw_1 dd_NC_within ⟨Nat.le_of_ble_eq_true rfl, Nat.le_of_ble_eq_true rfl, Nat.le_of_ble_eq_true rfl, Nat.le_of_ble_eq_true rfl⟩ (Nat.le_of_ble_eq_true rfl) rfl rfl rfl rfl ?_
  refine zo_ifneB d_NC_image_6 rfl 9 rfl (fun c2 => ?_) (fun c2 => ?_)
  · rw [if_pos c2] at h
    refine zi_aload_n 0 d_NC_image_15 rfl ?_
    obtain ⟨b3, eb3, h⟩ := zbind h
    refine zo_getR 19 zkd_10 1 d_NC_image_16 eb3 rfl tw_333 rfl ?_
    refine zi_iload_n 1 d_NC_image_19 rfl ?_
    obtain ⟨o4, eo4, h⟩ := zbind h
    refine zo_aald 21 d_NC_image_20 eo4 (by decide) rfl ?_
    refine zi_aload_n 0 d_NC_image_21 rfl ?_
    obtain ⟨b5, eb5, h⟩ := zbind h
    refine zo_getR 25 zkd_10 0 d_NC_image_22 eb5 rfl tw_332 rfl ?_
    obtain ⟨g6, eg6, h⟩ := zbind h
    simp only [eg6, va_rf]
    obtain ⟨u7, eu7, h⟩ := zbind h
    obtain ⟨q8, eq8, h⟩ := zbind h
    refine zo_virt (k' := 0) (n' := 0) 28 [.ref b5] [] [] zkd_3 (zck_s eu7) (C_Ni_copyFrom n E S g6 b5 q1.2 q8 eq8) d_NC_image_25 tw_867 tw_864 tw_865 tw_866 tw_2 dd_Ni_copyFrom ⟨Nat.le_of_ble_eq_true rfl, Nat.le_of_ble_eq_true rfl, Nat.le_of_ble_eq_true rfl, Nat.le_of_ble_eq_true rfl⟩ (Nat.le_of_ble_eq_true rfl) rfl rfl rfl rfl ?_
    refine zi_aload_n 0 d_NC_image_28 rfl ?_
    obtain ⟨b9, eb9, h⟩ := zbind h
    refine zo_getR 32 zkd_10 2 d_NC_image_29 eb9 rfl tw_334 rfl ?_
    refine zi_iload_n 1 d_NC_image_32 rfl ?_
    refine zi_iconst 1 d_NC_image_33 rfl ?_
    obtain ⟨m10, em10, h⟩ := zbind h
    refine zo_zast 35 d_NC_image_34 em10 rfl ?_
    refine zi_aload_n 0 d_NC_image_35 rfl ?_
    refine zi_iconst 0 d_NC_image_36 rfl ?_
    obtain ⟨q11, eq11, h⟩ := zbind h
    refine zo_virt (k' := 0) (n' := 0) 40 [.int 0] [] [.int q11.1] zkd_10 (zgR_s eb3).1 (C_NC_accept n E S a0 0 m10 q11.1 q11.2 eq11) d_NC_image_37 tw_458 tw_455 tw_457 ts_2 tw_1 dd_NC_accept ⟨Nat.le_of_ble_eq_true rfl, Nat.le_of_ble_eq_true rfl, Nat.le_of_ble_eq_true rfl, Nat.le_of_ble_eq_true rfl⟩ (Nat.le_of_ble_eq_true rfl) rfl rfl rfl rfl ?_
    cases h
    exact zo_ret d_NC_image_40 (Nat.le_of_ble_eq_true rfl) (Nat.le_of_ble_eq_true rfl) rfl
  · rw [if_neg c2] at h
    refine zi_aload_n 0 d_NC_image_9 rfl ?_
    refine zi_iconst (-1) d_NC_image_10 rfl ?_
    obtain ⟨u12, eu12, h⟩ := zbind h
    obtain ⟨q13, eq13, h⟩ := zbind h
    refine zo_virt (k' := 0) (n' := 0) 14 [.int (-1)] [] [.int q13.1] zkd_10 (zck_s eu12) (C_NC_refuse n E S a0 (-1) q1.2 q13.1 q13.2 eq13) d_NC_image_11 tw_450 tw_447 tw_449 ts_1 tw_1 dd_NC_refuse ⟨Nat.le_of_ble_eq_true rfl, Nat.le_of_ble_eq_true rfl, Nat.le_of_ble_eq_true rfl, Nat.le_of_ble_eq_true rfl⟩ (Nat.le_of_ble_eq_true rfl) rfl rfl rfl rfl ?_
    cases h
    exact zo_ret d_NC_image_14 (Nat.le_of_ble_eq_true rfl) (Nat.le_of_ble_eq_true rfl) rfl
theorem C_NC_image (n : Nat) (E : zE) (S : zS) (a0 : Nat) (x1 : Int32) (M : zH) (r : Int32) (M' : zH) (h : F_NC_image n E S a0 x1 M = some (r, M')) : zC E Y_NC_image [.ref a0, .int x1] S M (some (.int r), S, M') :=
  zC.of (Or.inl (show plainName "NightColander" = true by decide)) (Nat.le_of_ble_eq_true rfl) (trivial) (K_NC_image n E S a0 x1 M r M' h)
theorem d_NC_back_0 : decode (yB Y_NC_back) 0 = .ok (.iload_n 1, 1) := by decide +kernel
theorem d_NC_back_1 : decode (yB Y_NC_back) 1 = .ok (.iconst 0, 1) := by decide +kernel
theorem d_NC_back_2 : decode (yB Y_NC_back) 2 = .ok (.iconst 1, 1) := by decide +kernel
theorem d_NC_back_3 : decode (yB Y_NC_back) 3 = .ok (.invokestatic 132, 3) := by decide +kernel
theorem d_NC_back_6 : decode (yB Y_NC_back) 6 = .ok (.ifCond .ne 9, 3) := by decide +kernel
theorem d_NC_back_9 : decode (yB Y_NC_back) 9 = .ok (.aload_n 0, 1) := by decide +kernel
theorem d_NC_back_10 : decode (yB Y_NC_back) 10 = .ok (.iconst (-1), 1) := by decide +kernel
theorem d_NC_back_11 : decode (yB Y_NC_back) 11 = .ok (.invokevirtual 136, 3) := by decide +kernel
theorem d_NC_back_14 : decode (yB Y_NC_back) 14 = .ok (.ireturn, 1) := by decide +kernel
theorem d_NC_back_15 : decode (yB Y_NC_back) 15 = .ok (.aload_n 0, 1) := by decide +kernel
theorem d_NC_back_16 : decode (yB Y_NC_back) 16 = .ok (.getfield 22, 3) := by decide +kernel
theorem d_NC_back_19 : decode (yB Y_NC_back) 19 = .ok (.iload_n 1, 1) := by decide +kernel
theorem d_NC_back_20 : decode (yB Y_NC_back) 20 = .ok (.baload, 1) := by decide +kernel
theorem d_NC_back_21 : decode (yB Y_NC_back) 21 = .ok (.ifCond .ne 10, 3) := by decide +kernel
theorem d_NC_back_24 : decode (yB Y_NC_back) 24 = .ok (.aload_n 0, 1) := by decide +kernel
theorem d_NC_back_25 : decode (yB Y_NC_back) 25 = .ok (.bipush (-2), 2) := by decide +kernel
theorem d_NC_back_27 : decode (yB Y_NC_back) 27 = .ok (.invokevirtual 136, 3) := by decide +kernel
theorem d_NC_back_30 : decode (yB Y_NC_back) 30 = .ok (.ireturn, 1) := by decide +kernel
theorem d_NC_back_31 : decode (yB Y_NC_back) 31 = .ok (.aload_n 0, 1) := by decide +kernel
theorem d_NC_back_32 : decode (yB Y_NC_back) 32 = .ok (.getfield 12, 3) := by decide +kernel
theorem d_NC_back_35 : decode (yB Y_NC_back) 35 = .ok (.aload_n 0, 1) := by decide +kernel
theorem d_NC_back_36 : decode (yB Y_NC_back) 36 = .ok (.getfield 18, 3) := by decide +kernel
theorem d_NC_back_39 : decode (yB Y_NC_back) 39 = .ok (.iload_n 1, 1) := by decide +kernel
theorem d_NC_back_40 : decode (yB Y_NC_back) 40 = .ok (.aaload, 1) := by decide +kernel
theorem d_NC_back_41 : decode (yB Y_NC_back) 41 = .ok (.invokevirtual 229, 3) := by decide +kernel
theorem d_NC_back_44 : decode (yB Y_NC_back) 44 = .ok (.aload_n 0, 1) := by decide +kernel
theorem d_NC_back_45 : decode (yB Y_NC_back) 45 = .ok (.getfield 35, 3) := by decide +kernel
theorem d_NC_back_48 : decode (yB Y_NC_back) 48 = .ok (.invokevirtual 143, 3) := by decide +kernel
theorem d_NC_back_51 : decode (yB Y_NC_back) 51 = .ok (.aload_n 0, 1) := by decide +kernel
theorem d_NC_back_52 : decode (yB Y_NC_back) 52 = .ok (.iconst 0, 1) := by decide +kernel
theorem d_NC_back_53 : decode (yB Y_NC_back) 53 = .ok (.invokevirtual 146, 3) := by decide +kernel
theorem d_NC_back_56 : decode (yB Y_NC_back) 56 = .ok (.ireturn, 1) := by decide +kernel
def F_NC_back (n : Nat) (E : zE) (S : zS) (a0 : Nat) (x1 : Int32) (M : zH) : Option (Int32 × zH) :=
  (F_NC_within n E S x1 0 1 M).bind fun q1 =>
  if q1.1 = true then
    (zgR S a0 10 2).bind fun b3 =>
    (zldZ S q1.2 b3 x1).bind fun v4 =>
    if v4 = 0 then
      (F_NC_refuse n E S a0 (-2) q1.2).bind fun q6 =>
      some (q6.1, q6.2)
    else
      (zgR S a0 10 0).bind fun b7 =>
      (zgR S a0 10 1).bind fun b8 =>
      (zldR S q1.2 17 b8 x1).bind fun o9 =>
      (o9).bind fun g10 =>
      (zck S b7 3).bind fun u11 =>
      (F_Ni_copyFrom n E S b7 g10 q1.2).bind fun q12 =>
      (zgR S a0 10 5).bind fun b13 =>
      (zck S b13 6).bind fun u14 =>
      (F_Pt_clear n E S b13 q12).bind fun q15 =>
      (F_NC_accept n E S a0 0 q15).bind fun q16 =>
      some (q16.1, q16.2)
  else
    (zck S a0 10).bind fun u17 =>
    (F_NC_refuse n E S a0 (-1) q1.2).bind fun q18 =>
    some (q18.1, q18.2)
theorem K_NC_back (n : Nat) (E : zE) (S : zS) (a0 : Nat) (x1 : Int32) (M : zH) (r : Int32) (M' : zH)  (h : F_NC_back n E S a0 x1 M = some (r, M')) : zG E Y_NC_back (some (.int r), S, M') 0 [(0, .ref a0), (1, .int x1)] [] S M 0 0 := by
  unfold F_NC_back at h
  refine zi_iload_n 1 d_NC_back_0 rfl ?_
  refine zi_iconst 0 d_NC_back_1 rfl ?_
  refine zi_iconst 1 d_NC_back_2 rfl ?_
  obtain ⟨q1, eq1, h⟩ := zbind h
  refine zo_stat (k' := 0) (n' := 0) 6 [.int x1, .int 0, .int 1] [] [.int (bI q1.1)] (C_NC_within n E S x1 0 1 M q1.1 q1.2 eq1) d_NC_back_3 tw_399 tw_397 tw_398 tw_1 dd_NC_within ⟨Nat.le_of_ble_eq_true rfl, Nat.le_of_ble_eq_true rfl, Nat.le_of_ble_eq_true rfl, Nat.le_of_ble_eq_true rfl⟩ (Nat.le_of_ble_eq_true rfl) rfl rfl rfl rfl ?_
  refine zo_ifneB d_NC_back_6 rfl 9 rfl (fun c2 => ?_) (fun c2 => ?_)
  · rw [if_pos c2] at h
    refine zi_aload_n 0 d_NC_back_15 rfl ?_
    obtain ⟨b3, eb3, h⟩ := zbind h
    refine zo_getR 19 zkd_10 2 d_NC_back_16 eb3 rfl tw_334 rfl ?_
    refine zi_iload_n 1 d_NC_back_19 rfl ?_
    obtain ⟨v4, ev4, h⟩ := zbind h
    refine zo_zald 21 d_NC_back_20 ev4 rfl ?_
    refine zi_if_ne (tgt := 31) d_NC_back_21 rfl (fun c5 => ?_) (fun c5 => ?_)
    · rw [if_neg c5] at h
      refine zi_aload_n 0 d_NC_back_31 rfl ?_
      obtain ⟨b7, eb7, h⟩ := zbind h
      refine zo_getR 35 zkd_10 0 d_NC_back_32 eb7 rfl tw_332 rfl ?_
      refine zi_aload_n 0 d_NC_back_35 rfl ?_
      obtain ⟨b8, eb8, h⟩ := zbind h
      refine zo_getR 39 zkd_10 1 d_NC_back_36 eb8 rfl tw_333 rfl ?_
      refine zi_iload_n 1 d_NC_back_39 rfl ?_
      obtain ⟨o9, eo9, h⟩ := zbind h
      refine zo_aald 41 d_NC_back_40 eo9 (by decide) rfl ?_
      obtain ⟨g10, eg10, h⟩ := zbind h
      simp only [eg10, va_rf]
      obtain ⟨u11, eu11, h⟩ := zbind h
      obtain ⟨q12, eq12, h⟩ := zbind h
      refine zo_virt (k' := 0) (n' := 0) 44 [.ref g10] [] [] zkd_3 (zck_s eu11) (C_Ni_copyFrom n E S b7 g10 q1.2 q12 eq12) d_NC_back_41 tw_867 tw_864 tw_865 tw_866 tw_2 dd_Ni_copyFrom ⟨Nat.le_of_ble_eq_true rfl, Nat.le_of_ble_eq_true rfl, Nat.le_of_ble_eq_true rfl, Nat.le_of_ble_eq_true rfl⟩ (Nat.le_of_ble_eq_true rfl) rfl rfl rfl rfl ?_
      refine zi_aload_n 0 d_NC_back_44 rfl ?_
      obtain ⟨b13, eb13, h⟩ := zbind h
      refine zo_getR 48 zkd_10 5 d_NC_back_45 eb13 rfl tw_337 rfl ?_
      obtain ⟨u14, eu14, h⟩ := zbind h
      obtain ⟨q15, eq15, h⟩ := zbind h
      refine zo_virt (k' := 0) (n' := 0) 51 [] [] [] zkd_6 (zck_s eu14) (C_Pt_clear n E S b13 q12 q15 eq15) d_NC_back_48 tw_454 tw_451 tw_452 tw_453 tw_4 dd_Pt_clear ⟨Nat.le_of_ble_eq_true rfl, Nat.le_of_ble_eq_true rfl, Nat.le_of_ble_eq_true rfl, Nat.le_of_ble_eq_true rfl⟩ (Nat.le_of_ble_eq_true rfl) rfl rfl rfl rfl ?_
      refine zi_aload_n 0 d_NC_back_51 rfl ?_
      refine zi_iconst 0 d_NC_back_52 rfl ?_
      obtain ⟨q16, eq16, h⟩ := zbind h
      refine zo_virt (k' := 0) (n' := 0) 56 [.int 0] [] [.int q16.1] zkd_10 (zgR_s eb3).1 (C_NC_accept n E S a0 0 q15 q16.1 q16.2 eq16) d_NC_back_53 tw_458 tw_455 tw_457 ts_2 tw_1 dd_NC_accept ⟨Nat.le_of_ble_eq_true rfl, Nat.le_of_ble_eq_true rfl, Nat.le_of_ble_eq_true rfl, Nat.le_of_ble_eq_true rfl⟩ (Nat.le_of_ble_eq_true rfl) rfl rfl rfl rfl ?_
      cases h
      exact zo_ret d_NC_back_56 (Nat.le_of_ble_eq_true rfl) (Nat.le_of_ble_eq_true rfl) rfl
    · rw [if_pos c5] at h
      refine zi_aload_n 0 d_NC_back_24 rfl ?_
      refine zi_bipush (-2) d_NC_back_25 rfl ?_
      obtain ⟨q6, eq6, h⟩ := zbind h
      refine zo_virt (k' := 0) (n' := 0) 30 [.int (-2)] [] [.int q6.1] zkd_10 (zgR_s eb3).1 (C_NC_refuse n E S a0 (-2) q1.2 q6.1 q6.2 eq6) d_NC_back_27 tw_450 tw_447 tw_449 ts_1 tw_1 dd_NC_refuse ⟨Nat.le_of_ble_eq_true rfl, Nat.le_of_ble_eq_true rfl, Nat.le_of_ble_eq_true rfl, Nat.le_of_ble_eq_true rfl⟩ (Nat.le_of_ble_eq_true rfl) rfl rfl rfl rfl ?_
      cases h
      exact zo_ret d_NC_back_30 (Nat.le_of_ble_eq_true rfl) (Nat.le_of_ble_eq_true rfl) rfl
  · rw [if_neg c2] at h
    refine zi_aload_n 0 d_NC_back_9 rfl ?_
    refine zi_iconst (-1) d_NC_back_10 rfl ?_
    obtain ⟨u17, eu17, h⟩ := zbind h
    obtain ⟨q18, eq18, h⟩ := zbind h
    refine zo_virt (k' := 0) (n' := 0) 14 [.int (-1)] [] [.int q18.1] zkd_10 (zck_s eu17) (C_NC_refuse n E S a0 (-1) q1.2 q18.1 q18.2 eq18) d_NC_back_11 tw_450 tw_447 tw_449 ts_1 tw_1 dd_NC_refuse ⟨Nat.le_of_ble_eq_true rfl, Nat.le_of_ble_eq_true rfl, Nat.le_of_ble_eq_true rfl, Nat.le_of_ble_eq_true rfl⟩ (Nat.le_of_ble_eq_true rfl) rfl rfl rfl rfl ?_
    cases h
    exact zo_ret d_NC_back_14 (Nat.le_of_ble_eq_true rfl) (Nat.le_of_ble_eq_true rfl) rfl
theorem C_NC_back (n : Nat) (E : zE) (S : zS) (a0 : Nat) (x1 : Int32) (M : zH) (r : Int32) (M' : zH) (h : F_NC_back n E S a0 x1 M = some (r, M')) : zC E Y_NC_back [.ref a0, .int x1] S M (some (.int r), S, M') :=
  zC.of (Or.inl (show plainName "NightColander" = true by decide)) (Nat.le_of_ble_eq_true rfl) (trivial) (K_NC_back n E S a0 x1 M r M' h)
theorem d_Ni_blockedHoles_0 : decode (yB Y_Ni_blockedHoles) 0 = .ok (.iconst 0, 1) := by decide +kernel
theorem d_Ni_blockedHoles_1 : decode (yB Y_Ni_blockedHoles) 1 = .ok (.istore_n 1, 1) := by decide +kernel
theorem d_Ni_blockedHoles_2 : decode (yB Y_Ni_blockedHoles) 2 = .ok (.aload_n 0, 1) := by decide +kernel
theorem d_Ni_blockedHoles_3 : decode (yB Y_Ni_blockedHoles) 3 = .ok (.getfield 15, 3) := by decide +kernel
theorem d_Ni_blockedHoles_6 : decode (yB Y_Ni_blockedHoles) 6 = .ok (.astore_n 2, 1) := by decide +kernel
theorem d_Ni_blockedHoles_7 : decode (yB Y_Ni_blockedHoles) 7 = .ok (.aload_n 2, 1) := by decide +kernel
theorem d_Ni_blockedHoles_8 : decode (yB Y_Ni_blockedHoles) 8 = .ok (.arraylength, 1) := by decide +kernel
theorem d_Ni_blockedHoles_9 : decode (yB Y_Ni_blockedHoles) 9 = .ok (.istore_n 3, 1) := by decide +kernel
theorem d_Ni_blockedHoles_10 : decode (yB Y_Ni_blockedHoles) 10 = .ok (.iconst 0, 1) := by decide +kernel
theorem d_Ni_blockedHoles_11 : decode (yB Y_Ni_blockedHoles) 11 = .ok (.istore 4, 2) := by decide +kernel
theorem d_Ni_blockedHoles_13 : decode (yB Y_Ni_blockedHoles) 13 = .ok (.iload 4, 2) := by decide +kernel
theorem d_Ni_blockedHoles_15 : decode (yB Y_Ni_blockedHoles) 15 = .ok (.iload_n 3, 1) := by decide +kernel
theorem d_Ni_blockedHoles_16 : decode (yB Y_Ni_blockedHoles) 16 = .ok (.if_icmp .ge 28, 3) := by decide +kernel
theorem d_Ni_blockedHoles_19 : decode (yB Y_Ni_blockedHoles) 19 = .ok (.aload_n 2, 1) := by decide +kernel
theorem d_Ni_blockedHoles_20 : decode (yB Y_Ni_blockedHoles) 20 = .ok (.iload 4, 2) := by decide +kernel
theorem d_Ni_blockedHoles_22 : decode (yB Y_Ni_blockedHoles) 22 = .ok (.baload, 1) := by decide +kernel
theorem d_Ni_blockedHoles_23 : decode (yB Y_Ni_blockedHoles) 23 = .ok (.istore 5, 2) := by decide +kernel
theorem d_Ni_blockedHoles_25 : decode (yB Y_Ni_blockedHoles) 25 = .ok (.iload_n 1, 1) := by decide +kernel
theorem d_Ni_blockedHoles_26 : decode (yB Y_Ni_blockedHoles) 26 = .ok (.iload 5, 2) := by decide +kernel
theorem d_Ni_blockedHoles_28 : decode (yB Y_Ni_blockedHoles) 28 = .ok (.ifCond .eq 7, 3) := by decide +kernel
theorem d_Ni_blockedHoles_31 : decode (yB Y_Ni_blockedHoles) 31 = .ok (.iconst 1, 1) := by decide +kernel
theorem d_Ni_blockedHoles_32 : decode (yB Y_Ni_blockedHoles) 32 = .ok (.goto 4, 3) := by decide +kernel
theorem d_Ni_blockedHoles_35 : decode (yB Y_Ni_blockedHoles) 35 = .ok (.iconst 0, 1) := by decide +kernel
theorem d_Ni_blockedHoles_36 : decode (yB Y_Ni_blockedHoles) 36 = .ok (.iadd, 1) := by decide +kernel
theorem d_Ni_blockedHoles_37 : decode (yB Y_Ni_blockedHoles) 37 = .ok (.istore_n 1, 1) := by decide +kernel
theorem d_Ni_blockedHoles_38 : decode (yB Y_Ni_blockedHoles) 38 = .ok (.iinc 4 1, 3) := by decide +kernel
theorem d_Ni_blockedHoles_41 : decode (yB Y_Ni_blockedHoles) 41 = .ok (.goto (-28), 3) := by decide +kernel
theorem d_Ni_blockedHoles_44 : decode (yB Y_Ni_blockedHoles) 44 = .ok (.iload_n 1, 1) := by decide +kernel
theorem d_Ni_blockedHoles_45 : decode (yB Y_Ni_blockedHoles) 45 = .ok (.ireturn, 1) := by decide +kernel
def F_Ni_blockedHoles_b36 (n : Nat) (E : zE) (S : zS) (r13 : Int32 × Nat × Int32 × Int32 × zH → Option (Int32 × zH)) (a2 : Nat) (x3 : Int32) (x4 : Int32) (s0 : Int32) (s1 : Int32) (M : zH) : Option (Int32 × zH) :=
  r13 (s1 + s0, a2, x3, x4 + 1, M)
def F_Ni_blockedHoles_L13 (n : Nat) (E : zE) (S : zS) (r13 : Int32 × Nat × Int32 × Int32 × zH → Option (Int32 × zH)) (x1 : Int32) (a2 : Nat) (x3 : Int32) (x4 : Int32) (M : zH) : Option (Int32 × zH) :=
  if x3 ≤ x4 then
    some (x1, M)
  else
    (zldZ S M a2 x4).bind fun v2 =>
    if v2 = 0 then
      F_Ni_blockedHoles_b36 n E S r13 a2 x3 x4 0 x1 M
    else
      F_Ni_blockedHoles_b36 n E S r13 a2 x3 x4 1 x1 M
def F_Ni_blockedHoles_b13 (n : Nat) (E : zE) (S : zS) : Int32 × Nat × Int32 × Int32 × zH → Option (Int32 × zH) := zfix (fun r13 s => F_Ni_blockedHoles_L13 n E S r13 s.1 s.2.1 s.2.2.1 s.2.2.2.1 s.2.2.2.2) n
def F_Ni_blockedHoles (n : Nat) (E : zE) (S : zS) (a0 : Nat) (M : zH) : Option (Int32 × zH) :=
  (zgR S a0 3 1).bind fun b4 =>
  (zlen S 13 b4).bind fun v5 =>
  F_Ni_blockedHoles_b13 n E S (0, b4, v5, 0, M)
theorem K_Ni_blockedHoles_b36 (n : Nat) (E : zE) (S : zS) (r13 : Int32 × Nat × Int32 × Int32 × zH → Option (Int32 × zH)) (a2 : Nat) (x3 : Int32) (x4 : Int32) (s0 : Int32) (s1 : Int32) (M : zH) (r : Int32) (M' : zH) (hr13 : ∀ (x1 : Int32) (a2 : Nat) (x3 : Int32) (x4 : Int32) (M : zH), r13 (x1, a2, x3, x4, M) = some (r, M') → zG E Y_Ni_blockedHoles (some (.int r), S, M') 13 [(1, .int x1), (2, .ref a2), (3, .int x3), (4, .int x4)] [] S M 0 0) (h : F_Ni_blockedHoles_b36 n E S r13 a2 x3 x4 s0 s1 M = some (r, M')) : zG E Y_Ni_blockedHoles (some (.int r), S, M') 36 [(2, .ref a2), (3, .int x3), (4, .int x4)] [.int s0, .int s1] S M 0 0 := by
  unfold F_Ni_blockedHoles_b36 at h
  refine zi_iadd d_Ni_blockedHoles_36 ?_
  refine zi_istore_n [(1, .int (s1 + s0)), (2, .ref a2), (3, .int x3), (4, .int x4)] d_Ni_blockedHoles_37 (by decide) rfl ?_
  refine zi_iinc 3 (x4 + 1) [(4, .int (x4 + 1)), (1, .int (s1 + s0)), (2, .ref a2), (3, .int x3)] d_Ni_blockedHoles_38 rfl rfl (by decide) rfl ?_
  refine zi_goto (tgt := 13) d_Ni_blockedHoles_41 rfl ?_
  refine zi_lo [(1, .int (s1 + s0)), (2, .ref a2), (3, .int x3), (4, .int (x4 + 1))] [1, 2, 3, 0] rfl ?_
  exact hr13 (s1 + s0) a2 x3 (x4 + 1) M h
theorem K_Ni_blockedHoles_L13 (n : Nat) (E : zE) (S : zS) (r13 : Int32 × Nat × Int32 × Int32 × zH → Option (Int32 × zH)) (x1 : Int32) (a2 : Nat) (x3 : Int32) (x4 : Int32) (M : zH) (r : Int32) (M' : zH) (hr13 : ∀ (x1 : Int32) (a2 : Nat) (x3 : Int32) (x4 : Int32) (M : zH), r13 (x1, a2, x3, x4, M) = some (r, M') → zG E Y_Ni_blockedHoles (some (.int r), S, M') 13 [(1, .int x1), (2, .ref a2), (3, .int x3), (4, .int x4)] [] S M 0 0) (h : F_Ni_blockedHoles_L13 n E S r13 x1 a2 x3 x4 M = some (r, M')) : zG E Y_Ni_blockedHoles (some (.int r), S, M') 13 [(1, .int x1), (2, .ref a2), (3, .int x3), (4, .int x4)] [] S M 0 0 := by
  unfold F_Ni_blockedHoles_L13 at h
  refine zi_iload 3 d_Ni_blockedHoles_13 rfl ?_
  refine zi_iload_n 2 d_Ni_blockedHoles_15 rfl ?_
  refine zi_icmp_ge (tgt := 44) d_Ni_blockedHoles_16 rfl (fun c1 => ?_) (fun c1 => ?_)
  · rw [if_pos c1] at h
    refine zi_iload_n 0 d_Ni_blockedHoles_44 rfl ?_
    cases h
    exact zo_ret d_Ni_blockedHoles_45 (Nat.le_of_ble_eq_true rfl) (Nat.le_of_ble_eq_true rfl) rfl
  · rw [if_neg c1] at h
    refine zi_aload_n 1 d_Ni_blockedHoles_19 rfl ?_
    refine zi_iload 3 d_Ni_blockedHoles_20 rfl ?_
    obtain ⟨v2, ev2, h⟩ := zbind h
    refine zo_zald 23 d_Ni_blockedHoles_22 ev2 rfl ?_
    refine zi_istore [(5, .int v2), (1, .int x1), (2, .ref a2), (3, .int x3), (4, .int x4)] d_Ni_blockedHoles_23 (by decide) rfl ?_
    refine zi_iload_n 1 d_Ni_blockedHoles_25 rfl ?_
    refine zi_iload 0 d_Ni_blockedHoles_26 rfl ?_
    refine zi_if_eq (tgt := 35) d_Ni_blockedHoles_28 rfl (fun c3 => ?_) (fun c3 => ?_)
    · rw [if_pos c3] at h
      refine zi_iconst 0 d_Ni_blockedHoles_35 rfl ?_
      refine zi_lo [(2, .ref a2), (3, .int x3), (4, .int x4)] [2, 3, 4] rfl ?_
      exact K_Ni_blockedHoles_b36 n E S r13 a2 x3 x4 0 x1 M r M' hr13 h
    · rw [if_neg c3] at h
      refine zi_iconst 1 d_Ni_blockedHoles_31 rfl ?_
      refine zi_goto (tgt := 36) d_Ni_blockedHoles_32 rfl ?_
      refine zi_lo [(2, .ref a2), (3, .int x3), (4, .int x4)] [2, 3, 4] rfl ?_
      exact K_Ni_blockedHoles_b36 n E S r13 a2 x3 x4 1 x1 M r M' hr13 h
theorem K_Ni_blockedHoles_b13 (n : Nat) (E : zE) (S : zS) (x1 : Int32) (a2 : Nat) (x3 : Int32) (x4 : Int32) (M : zH) (r : Int32) (M' : zH)  (h : F_Ni_blockedHoles_b13 n E S (x1, a2, x3, x4, M) = some (r, M')) : zG E Y_Ni_blockedHoles (some (.int r), S, M') 13 [(1, .int x1), (2, .ref a2), (3, .int x3), (4, .int x4)] [] S M 0 0 := by
  have key : ∀ (k : Nat) (x1 : Int32) (a2 : Nat) (x3 : Int32) (x4 : Int32) (M : zH), zfix (fun r13 s => F_Ni_blockedHoles_L13 n E S r13 s.1 s.2.1 s.2.2.1 s.2.2.2.1 s.2.2.2.2) k (x1, a2, x3, x4, M) = some (r, M') → zG E Y_Ni_blockedHoles (some (.int r), S, M') 13 [(1, .int x1), (2, .ref a2), (3, .int x3), (4, .int x4)] [] S M 0 0 := by
    intro k
    induction k with
    | zero => intro x1 a2 x3 x4 M h; cases h
    | succ k ih => intro x1 a2 x3 x4 M h; exact K_Ni_blockedHoles_L13 n E S _ x1 a2 x3 x4 M r M'  (fun x1 a2 x3 x4 M h => ih x1 a2 x3 x4 M h) h
  exact key n x1 a2 x3 x4 M h
theorem K_Ni_blockedHoles (n : Nat) (E : zE) (S : zS) (a0 : Nat) (M : zH) (r : Int32) (M' : zH)  (h : F_Ni_blockedHoles n E S a0 M = some (r, M')) : zG E Y_Ni_blockedHoles (some (.int r), S, M') 0 [(0, .ref a0)] [] S M 0 0 := by
  unfold F_Ni_blockedHoles at h
  refine zi_iconst 0 d_Ni_blockedHoles_0 rfl ?_
  refine zi_istore_n [(1, .int 0), (0, .ref a0)] d_Ni_blockedHoles_1 (by decide) rfl ?_
  refine zi_aload_n 1 d_Ni_blockedHoles_2 rfl ?_
  obtain ⟨b4, eb4, h⟩ := zbind h
  refine zo_getR 6 zkd_3 1 d_Ni_blockedHoles_3 eb4 rfl tw_46 rfl ?_
  refine zi_astore_n [(2, .ref b4), (1, .int 0), (0, .ref a0)] d_Ni_blockedHoles_6 (by decide) rfl ?_
  refine zi_aload_n 0 d_Ni_blockedHoles_7 rfl ?_
  obtain ⟨v5, ev5, h⟩ := zbind h
  refine zo_alen 9 d_Ni_blockedHoles_8 ev5 (by decide) rfl ?_
  refine zi_istore_n [(3, .int v5), (2, .ref b4), (1, .int 0), (0, .ref a0)] d_Ni_blockedHoles_9 (by decide) rfl ?_
  refine zi_iconst 0 d_Ni_blockedHoles_10 rfl ?_
  refine zi_istore [(4, .int 0), (3, .int v5), (2, .ref b4), (1, .int 0), (0, .ref a0)] d_Ni_blockedHoles_11 (by decide) rfl ?_
  refine zi_lo [(1, .int 0), (2, .ref b4), (3, .int v5), (4, .int 0)] [3, 2, 1, 0] rfl ?_
  exact K_Ni_blockedHoles_b13 n E S 0 b4 v5 0 M r M'  h
theorem C_Ni_blockedHoles (n : Nat) (E : zE) (S : zS) (a0 : Nat) (M : zH) (r : Int32) (M' : zH) (h : F_Ni_blockedHoles n E S a0 M = some (r, M')) : zC E Y_Ni_blockedHoles [.ref a0] S M (some (.int r), S, M') :=
  zC.of (Or.inl (show plainName "NightColander$Night" = true by decide)) (Nat.le_of_ble_eq_true rfl) (trivial) (K_Ni_blockedHoles n E S a0 M r M' h)
