/-! METHODS (printed by gen/build.py): Te_markOf Jm_max Jm_min Ju_told Jm_floorMod Ni_fieldBelow Ni_lawInForce Ju_runsOf NC_hole NC_accept NC_refuse Pt_clear NC_turn NC_isField Ni_addBucket Ni_bucketAt NC_bucket -/
theorem d_Te_markOf_0 : decode (yB Y_Te_markOf) 0 = .ok (.iload_n 1, 1) := by decide +kernel
theorem d_Te_markOf_1 : decode (yB Y_Te_markOf) 1 = .ok (.iconst 4, 1) := by decide +kernel
theorem d_Te_markOf_2 : decode (yB Y_Te_markOf) 2 = .ok (.imul, 1) := by decide +kernel
theorem d_Te_markOf_3 : decode (yB Y_Te_markOf) 3 = .ok (.iload_n 2, 1) := by decide +kernel
theorem d_Te_markOf_4 : decode (yB Y_Te_markOf) 4 = .ok (.iadd, 1) := by decide +kernel
theorem d_Te_markOf_5 : decode (yB Y_Te_markOf) 5 = .ok (.istore_n 3, 1) := by decide +kernel
theorem d_Te_markOf_6 : decode (yB Y_Te_markOf) 6 = .ok (.iload_n 3, 1) := by decide +kernel
theorem d_Te_markOf_7 : decode (yB Y_Te_markOf) 7 = .ok (.ifCond .lt 21, 3) := by decide +kernel
theorem d_Te_markOf_10 : decode (yB Y_Te_markOf) 10 = .ok (.iload_n 3, 1) := by decide +kernel
theorem d_Te_markOf_11 : decode (yB Y_Te_markOf) 11 = .ok (.aload_n 0, 1) := by decide +kernel
theorem d_Te_markOf_12 : decode (yB Y_Te_markOf) 12 = .ok (.getfield 29, 3) := by decide +kernel
theorem d_Te_markOf_15 : decode (yB Y_Te_markOf) 15 = .ok (.arraylength, 1) := by decide +kernel
theorem d_Te_markOf_16 : decode (yB Y_Te_markOf) 16 = .ok (.if_icmp .ge 12, 3) := by decide +kernel
theorem d_Te_markOf_19 : decode (yB Y_Te_markOf) 19 = .ok (.aload_n 0, 1) := by decide +kernel
theorem d_Te_markOf_20 : decode (yB Y_Te_markOf) 20 = .ok (.getfield 29, 3) := by decide +kernel
theorem d_Te_markOf_23 : decode (yB Y_Te_markOf) 23 = .ok (.iload_n 3, 1) := by decide +kernel
theorem d_Te_markOf_24 : decode (yB Y_Te_markOf) 24 = .ok (.iaload, 1) := by decide +kernel
theorem d_Te_markOf_25 : decode (yB Y_Te_markOf) 25 = .ok (.goto 4, 3) := by decide +kernel
theorem d_Te_markOf_28 : decode (yB Y_Te_markOf) 28 = .ok (.iconst 0, 1) := by decide +kernel
theorem d_Te_markOf_29 : decode (yB Y_Te_markOf) 29 = .ok (.ireturn, 1) := by decide +kernel
def F_Te_markOf (n : Nat) (E : zE) (S : zS) (a0 : Nat) (x1 : Int32) (x2 : Int32) (M : zH) : Option (Int32 × zH) :=
  if ((x1 * 4) + x2) < 0 then
    some (0, M)
  else
    (zgR S a0 9 4).bind fun b_2 =>
    (zlen S 12 b_2).bind fun v_3 =>
    if v_3 ≤ ((x1 * 4) + x2) then
      some (0, M)
    else
      (zldI S M b_2 ((x1 * 4) + x2)).bind fun v_5 =>
      some (v_5, M)
theorem K_Te_markOf (n : Nat) (E : zE) (S : zS) (a0 : Nat) (x1 : Int32) (x2 : Int32) (M : zH) (r : Int32) (M' : zH)  (h : F_Te_markOf n E S a0 x1 x2 M = some (r, M')) : zG E Y_Te_markOf (some (.int r), S, M') 0 [(0, .ref a0), (1, .int x1), (2, .int x2)] [] S M 0 0 := by
  unfold F_Te_markOf at h
  refine zi_iload_n 1 d_Te_markOf_0 rfl ?_
  refine zi_iconst 4 d_Te_markOf_1 rfl ?_
  refine zi_imul d_Te_markOf_2 ?_
  refine zi_iload_n 2 d_Te_markOf_3 rfl ?_
  refine zi_iadd d_Te_markOf_4 ?_
  refine zi_istore_n [(3, .int ((x1 * 4) + x2)), (0, .ref a0), (1, .int x1), (2, .int x2)] d_Te_markOf_5 (by decide) rfl ?_
  refine zi_iload_n 0 d_Te_markOf_6 rfl ?_
  refine zi_if_lt (tgt := 28) d_Te_markOf_7 rfl (fun c_1 => ?_) (fun c_1 => ?_)
  · rw [if_pos c_1] at h
    refine zi_iconst 0 d_Te_markOf_28 rfl ?_
    cases h
    exact zo_ret d_Te_markOf_29 (Nat.le_of_ble_eq_true rfl) (Nat.le_of_ble_eq_true rfl) rfl
  · rw [if_neg c_1] at h
    refine zi_iload_n 0 d_Te_markOf_10 rfl ?_
    refine zi_aload_n 1 d_Te_markOf_11 rfl ?_
    obtain ⟨b_2, eb_2, h⟩ := zbind h
    refine zo_getR 15 zkd_9 4 d_Te_markOf_12 eb_2 rfl tw_194 rfl ?_
    obtain ⟨v_3, ev_3, h⟩ := zbind h
    refine zo_alen 16 d_Te_markOf_15 ev_3 (by decide) rfl ?_
    refine zi_icmp_ge (tgt := 28) d_Te_markOf_16 rfl (fun c_4 => ?_) (fun c_4 => ?_)
    · rw [if_pos c_4] at h
      refine zi_iconst 0 d_Te_markOf_28 rfl ?_
      cases h
      exact zo_ret d_Te_markOf_29 (Nat.le_of_ble_eq_true rfl) (Nat.le_of_ble_eq_true rfl) rfl
    · rw [if_neg c_4] at h
      refine zi_aload_n 1 d_Te_markOf_19 rfl ?_
      refine zo_getR 23 zkd_9 4 d_Te_markOf_20 eb_2 rfl tw_194 rfl ?_
      refine zi_iload_n 0 d_Te_markOf_23 rfl ?_
      obtain ⟨v_5, ev_5, h⟩ := zbind h
      refine zo_iald 25 d_Te_markOf_24 ev_5 rfl ?_
      refine zi_goto (tgt := 29) d_Te_markOf_25 rfl ?_
      cases h
      exact zo_ret d_Te_markOf_29 (Nat.le_of_ble_eq_true rfl) (Nat.le_of_ble_eq_true rfl) rfl
theorem C_Te_markOf (n : Nat) (E : zE) (S : zS) (a0 : Nat) (x1 : Int32) (x2 : Int32) (M : zH) (r : Int32) (M' : zH) (h : F_Te_markOf n E S a0 x1 x2 M = some (r, M')) : zC E Y_Te_markOf [.ref a0, .int x1, .int x2] S M (some (.int r), S, M') :=
  zC.of (Or.inl (show plainName "NightColander$Text" = true by decide)) (Nat.le_of_ble_eq_true rfl) (trivial) (K_Te_markOf n E S a0 x1 x2 M r M' h)
theorem d_Jm_max_0 : decode (yB Y_Jm_max) 0 = .ok (.iload_n 0, 1) := by decide +kernel
theorem d_Jm_max_1 : decode (yB Y_Jm_max) 1 = .ok (.iload_n 1, 1) := by decide +kernel
theorem d_Jm_max_2 : decode (yB Y_Jm_max) 2 = .ok (.if_icmp .lt 7, 3) := by decide +kernel
theorem d_Jm_max_5 : decode (yB Y_Jm_max) 5 = .ok (.iload_n 0, 1) := by decide +kernel
theorem d_Jm_max_6 : decode (yB Y_Jm_max) 6 = .ok (.goto 4, 3) := by decide +kernel
theorem d_Jm_max_9 : decode (yB Y_Jm_max) 9 = .ok (.iload_n 1, 1) := by decide +kernel
theorem d_Jm_max_10 : decode (yB Y_Jm_max) 10 = .ok (.ireturn, 1) := by decide +kernel
def F_Jm_max (n : Nat) (E : zE) (S : zS) (x0 : Int32) (x1 : Int32) (M : zH) : Option (Int32 × zH) :=
  if x0 < x1 then
    some (x1, M)
  else
    some (x0, M)
theorem K_Jm_max (n : Nat) (E : zE) (S : zS) (x0 : Int32) (x1 : Int32) (M : zH) (r : Int32) (M' : zH)  (h : F_Jm_max n E S x0 x1 M = some (r, M')) : zG E Y_Jm_max (some (.int r), S, M') 0 [(0, .int x0), (1, .int x1)] [] S M 0 0 := by
  unfold F_Jm_max at h
  refine zi_iload_n 0 d_Jm_max_0 rfl ?_
  refine zi_iload_n 1 d_Jm_max_1 rfl ?_
  refine zi_icmp_lt (tgt := 9) d_Jm_max_2 rfl (fun c_1 => ?_) (fun c_1 => ?_)
  · rw [if_pos c_1] at h
    refine zi_iload_n 1 d_Jm_max_9 rfl ?_
    cases h
    exact zo_ret d_Jm_max_10 (Nat.le_of_ble_eq_true rfl) (Nat.le_of_ble_eq_true rfl) rfl
  · rw [if_neg c_1] at h
    refine zi_iload_n 0 d_Jm_max_5 rfl ?_
    refine zi_goto (tgt := 10) d_Jm_max_6 rfl ?_
    cases h
    exact zo_ret d_Jm_max_10 (Nat.le_of_ble_eq_true rfl) (Nat.le_of_ble_eq_true rfl) rfl
theorem C_Jm_max (n : Nat) (E : zE) (S : zS) (x0 : Int32) (x1 : Int32) (M : zH) (r : Int32) (M' : zH) (h : F_Jm_max n E S x0 x1 M = some (r, M')) : zC E Y_Jm_max [.int x0, .int x1] S M (some (.int r), S, M') :=
  zC.of (Or.inr (show plainFor ⟨"java/lang/Math","max","(II)I"⟩ = true by decide +kernel)) (Nat.le_of_ble_eq_true rfl) (trivial) (K_Jm_max n E S x0 x1 M r M' h)
theorem d_Jm_min_0 : decode (yB Y_Jm_min) 0 = .ok (.iload_n 0, 1) := by decide +kernel
theorem d_Jm_min_1 : decode (yB Y_Jm_min) 1 = .ok (.iload_n 1, 1) := by decide +kernel
theorem d_Jm_min_2 : decode (yB Y_Jm_min) 2 = .ok (.if_icmp .gt 7, 3) := by decide +kernel
theorem d_Jm_min_5 : decode (yB Y_Jm_min) 5 = .ok (.iload_n 0, 1) := by decide +kernel
theorem d_Jm_min_6 : decode (yB Y_Jm_min) 6 = .ok (.goto 4, 3) := by decide +kernel
theorem d_Jm_min_9 : decode (yB Y_Jm_min) 9 = .ok (.iload_n 1, 1) := by decide +kernel
theorem d_Jm_min_10 : decode (yB Y_Jm_min) 10 = .ok (.ireturn, 1) := by decide +kernel
def F_Jm_min (n : Nat) (E : zE) (S : zS) (x0 : Int32) (x1 : Int32) (M : zH) : Option (Int32 × zH) :=
  if x1 < x0 then
    some (x1, M)
  else
    some (x0, M)
theorem K_Jm_min (n : Nat) (E : zE) (S : zS) (x0 : Int32) (x1 : Int32) (M : zH) (r : Int32) (M' : zH)  (h : F_Jm_min n E S x0 x1 M = some (r, M')) : zG E Y_Jm_min (some (.int r), S, M') 0 [(0, .int x0), (1, .int x1)] [] S M 0 0 := by
  unfold F_Jm_min at h
  refine zi_iload_n 0 d_Jm_min_0 rfl ?_
  refine zi_iload_n 1 d_Jm_min_1 rfl ?_
  refine zi_icmp_gt (tgt := 9) d_Jm_min_2 rfl (fun c_1 => ?_) (fun c_1 => ?_)
  · rw [if_pos c_1] at h
    refine zi_iload_n 1 d_Jm_min_9 rfl ?_
    cases h
    exact zo_ret d_Jm_min_10 (Nat.le_of_ble_eq_true rfl) (Nat.le_of_ble_eq_true rfl) rfl
  · rw [if_neg c_1] at h
    refine zi_iload_n 0 d_Jm_min_5 rfl ?_
    refine zi_goto (tgt := 10) d_Jm_min_6 rfl ?_
    cases h
    exact zo_ret d_Jm_min_10 (Nat.le_of_ble_eq_true rfl) (Nat.le_of_ble_eq_true rfl) rfl
theorem C_Jm_min (n : Nat) (E : zE) (S : zS) (x0 : Int32) (x1 : Int32) (M : zH) (r : Int32) (M' : zH) (h : F_Jm_min n E S x0 x1 M = some (r, M')) : zC E Y_Jm_min [.int x0, .int x1] S M (some (.int r), S, M') :=
  zC.of (Or.inr (show plainFor ⟨"java/lang/Math","min","(II)I"⟩ = true by decide +kernel)) (Nat.le_of_ble_eq_true rfl) (trivial) (K_Jm_min n E S x0 x1 M r M' h)
theorem d_Ju_told_0 : decode (yB Y_Ju_told) 0 = .ok (.aload_n 0, 1) := by decide +kernel
theorem d_Ju_told_1 : decode (yB Y_Ju_told) 1 = .ok (.getfield 18, 3) := by decide +kernel
theorem d_Ju_told_4 : decode (yB Y_Ju_told) 4 = .ok (.bipush 6, 2) := by decide +kernel
theorem d_Ju_told_6 : decode (yB Y_Ju_told) 6 = .ok (.aload_n 1, 1) := by decide +kernel
theorem d_Ju_told_7 : decode (yB Y_Ju_told) 7 = .ok (.getfield 27, 3) := by decide +kernel
theorem d_Ju_told_10 : decode (yB Y_Ju_told) 10 = .ok (.iconst 0, 1) := by decide +kernel
theorem d_Ju_told_11 : decode (yB Y_Ju_told) 11 = .ok (.iaload, 1) := by decide +kernel
theorem d_Ju_told_12 : decode (yB Y_Ju_told) 12 = .ok (.iastore, 1) := by decide +kernel
theorem d_Ju_told_13 : decode (yB Y_Ju_told) 13 = .ok (.aload_n 0, 1) := by decide +kernel
theorem d_Ju_told_14 : decode (yB Y_Ju_told) 14 = .ok (.getfield 18, 3) := by decide +kernel
theorem d_Ju_told_17 : decode (yB Y_Ju_told) 17 = .ok (.bipush 7, 2) := by decide +kernel
theorem d_Ju_told_19 : decode (yB Y_Ju_told) 19 = .ok (.aload_n 1, 1) := by decide +kernel
theorem d_Ju_told_20 : decode (yB Y_Ju_told) 20 = .ok (.getfield 27, 3) := by decide +kernel
theorem d_Ju_told_23 : decode (yB Y_Ju_told) 23 = .ok (.iconst 1, 1) := by decide +kernel
theorem d_Ju_told_24 : decode (yB Y_Ju_told) 24 = .ok (.iaload, 1) := by decide +kernel
theorem d_Ju_told_25 : decode (yB Y_Ju_told) 25 = .ok (.iastore, 1) := by decide +kernel
theorem d_Ju_told_26 : decode (yB Y_Ju_told) 26 = .ok (.aload_n 0, 1) := by decide +kernel
theorem d_Ju_told_27 : decode (yB Y_Ju_told) 27 = .ok (.getfield 18, 3) := by decide +kernel
theorem d_Ju_told_30 : decode (yB Y_Ju_told) 30 = .ok (.bipush 8, 2) := by decide +kernel
theorem d_Ju_told_32 : decode (yB Y_Ju_told) 32 = .ok (.aload_n 1, 1) := by decide +kernel
theorem d_Ju_told_33 : decode (yB Y_Ju_told) 33 = .ok (.getfield 27, 3) := by decide +kernel
theorem d_Ju_told_36 : decode (yB Y_Ju_told) 36 = .ok (.iconst 2, 1) := by decide +kernel
theorem d_Ju_told_37 : decode (yB Y_Ju_told) 37 = .ok (.iaload, 1) := by decide +kernel
theorem d_Ju_told_38 : decode (yB Y_Ju_told) 38 = .ok (.iastore, 1) := by decide +kernel
theorem d_Ju_told_39 : decode (yB Y_Ju_told) 39 = .ok (.aload_n 2, 1) := by decide +kernel
theorem d_Ju_told_40 : decode (yB Y_Ju_told) 40 = .ok (.getfield 63, 3) := by decide +kernel
theorem d_Ju_told_43 : decode (yB Y_Ju_told) 43 = .ok (.iconst 1, 1) := by decide +kernel
theorem d_Ju_told_44 : decode (yB Y_Ju_told) 44 = .ok (.isub, 1) := by decide +kernel
theorem d_Ju_told_45 : decode (yB Y_Ju_told) 45 = .ok (.istore 6, 2) := by decide +kernel
theorem d_Ju_told_47 : decode (yB Y_Ju_told) 47 = .ok (.iload 6, 2) := by decide +kernel
theorem d_Ju_told_49 : decode (yB Y_Ju_told) 49 = .ok (.ifCond .lt 125, 3) := by decide +kernel
theorem d_Ju_told_52 : decode (yB Y_Ju_told) 52 = .ok (.aload_n 2, 1) := by decide +kernel
theorem d_Ju_told_53 : decode (yB Y_Ju_told) 53 = .ok (.getfield 69, 3) := by decide +kernel
theorem d_Ju_told_56 : decode (yB Y_Ju_told) 56 = .ok (.iload 6, 2) := by decide +kernel
theorem d_Ju_told_58 : decode (yB Y_Ju_told) 58 = .ok (.iaload, 1) := by decide +kernel
theorem d_Ju_told_59 : decode (yB Y_Ju_told) 59 = .ok (.iload_n 3, 1) := by decide +kernel
theorem d_Ju_told_60 : decode (yB Y_Ju_told) 60 = .ok (.if_icmp .eq 6, 3) := by decide +kernel
theorem d_Ju_told_63 : decode (yB Y_Ju_told) 63 = .ok (.goto 105, 3) := by decide +kernel
theorem d_Ju_told_66 : decode (yB Y_Ju_told) 66 = .ok (.aload_n 2, 1) := by decide +kernel
theorem d_Ju_told_67 : decode (yB Y_Ju_told) 67 = .ok (.iload 6, 2) := by decide +kernel
theorem d_Ju_told_69 : decode (yB Y_Ju_told) 69 = .ok (.iconst 2, 1) := by decide +kernel
theorem d_Ju_told_70 : decode (yB Y_Ju_told) 70 = .ok (.invokevirtual 72, 3) := by decide +kernel
theorem d_Ju_told_73 : decode (yB Y_Ju_told) 73 = .ok (.istore 7, 2) := by decide +kernel
theorem d_Ju_told_75 : decode (yB Y_Ju_told) 75 = .ok (.aload_n 2, 1) := by decide +kernel
theorem d_Ju_told_76 : decode (yB Y_Ju_told) 76 = .ok (.iload 6, 2) := by decide +kernel
theorem d_Ju_told_78 : decode (yB Y_Ju_told) 78 = .ok (.iconst 3, 1) := by decide +kernel
theorem d_Ju_told_79 : decode (yB Y_Ju_told) 79 = .ok (.invokevirtual 72, 3) := by decide +kernel
theorem d_Ju_told_82 : decode (yB Y_Ju_told) 82 = .ok (.istore 8, 2) := by decide +kernel
theorem d_Ju_told_84 : decode (yB Y_Ju_told) 84 = .ok (.iload 7, 2) := by decide +kernel
theorem d_Ju_told_86 : decode (yB Y_Ju_told) 86 = .ok (.iload 8, 2) := by decide +kernel
theorem d_Ju_told_88 : decode (yB Y_Ju_told) 88 = .ok (.if_icmp .ge 26, 3) := by decide +kernel
theorem d_Ju_told_91 : decode (yB Y_Ju_told) 91 = .ok (.aload_n 0, 1) := by decide +kernel
theorem d_Ju_told_92 : decode (yB Y_Ju_told) 92 = .ok (.getfield 12, 3) := by decide +kernel
theorem d_Ju_told_95 : decode (yB Y_Ju_told) 95 = .ok (.aload_n 2, 1) := by decide +kernel
theorem d_Ju_told_96 : decode (yB Y_Ju_told) 96 = .ok (.iload 7, 2) := by decide +kernel
theorem d_Ju_told_98 : decode (yB Y_Ju_told) 98 = .ok (.iload 8, 2) := by decide +kernel
theorem d_Ju_told_100 : decode (yB Y_Ju_told) 100 = .ok (.aload_n 0, 1) := by decide +kernel
theorem d_Ju_told_101 : decode (yB Y_Ju_told) 101 = .ok (.getfield 18, 3) := by decide +kernel
theorem d_Ju_told_104 : decode (yB Y_Ju_told) 104 = .ok (.invokevirtual 75, 3) := by decide +kernel
theorem d_Ju_told_107 : decode (yB Y_Ju_told) 107 = .ok (.iconst 1, 1) := by decide +kernel
theorem d_Ju_told_108 : decode (yB Y_Ju_told) 108 = .ok (.if_icmp .eq 6, 3) := by decide +kernel
theorem d_Ju_told_111 : decode (yB Y_Ju_told) 111 = .ok (.goto 57, 3) := by decide +kernel
theorem d_Ju_told_114 : decode (yB Y_Ju_told) 114 = .ok (.iload_n 3, 1) := by decide +kernel
theorem d_Ju_told_115 : decode (yB Y_Ju_told) 115 = .ok (.iconst 3, 1) := by decide +kernel
theorem d_Ju_told_116 : decode (yB Y_Ju_told) 116 = .ok (.if_icmp .ne 5, 3) := by decide +kernel
theorem d_Ju_told_119 : decode (yB Y_Ju_told) 119 = .ok (.iconst 1, 1) := by decide +kernel
theorem d_Ju_told_120 : decode (yB Y_Ju_told) 120 = .ok (.ireturn, 1) := by decide +kernel
theorem d_Ju_told_121 : decode (yB Y_Ju_told) 121 = .ok (.aload_n 0, 1) := by decide +kernel
theorem d_Ju_told_122 : decode (yB Y_Ju_told) 122 = .ok (.getfield 12, 3) := by decide +kernel
theorem d_Ju_told_125 : decode (yB Y_Ju_told) 125 = .ok (.aload_n 2, 1) := by decide +kernel
theorem d_Ju_told_126 : decode (yB Y_Ju_told) 126 = .ok (.aload_n 2, 1) := by decide +kernel
theorem d_Ju_told_127 : decode (yB Y_Ju_told) 127 = .ok (.iload 6, 2) := by decide +kernel
theorem d_Ju_told_129 : decode (yB Y_Ju_told) 129 = .ok (.iconst 0, 1) := by decide +kernel
theorem d_Ju_told_130 : decode (yB Y_Ju_told) 130 = .ok (.invokevirtual 72, 3) := by decide +kernel
theorem d_Ju_told_133 : decode (yB Y_Ju_told) 133 = .ok (.aload_n 2, 1) := by decide +kernel
theorem d_Ju_told_134 : decode (yB Y_Ju_told) 134 = .ok (.iload 6, 2) := by decide +kernel
theorem d_Ju_told_136 : decode (yB Y_Ju_told) 136 = .ok (.iconst 1, 1) := by decide +kernel
theorem d_Ju_told_137 : decode (yB Y_Ju_told) 137 = .ok (.invokevirtual 72, 3) := by decide +kernel
theorem d_Ju_told_140 : decode (yB Y_Ju_told) 140 = .ok (.aload_n 0, 1) := by decide +kernel
theorem d_Ju_told_141 : decode (yB Y_Ju_told) 141 = .ok (.getfield 18, 3) := by decide +kernel
theorem d_Ju_told_144 : decode (yB Y_Ju_told) 144 = .ok (.invokevirtual 75, 3) := by decide +kernel
theorem d_Ju_told_147 : decode (yB Y_Ju_told) 147 = .ok (.istore 9, 2) := by decide +kernel
theorem d_Ju_told_149 : decode (yB Y_Ju_told) 149 = .ok (.iload 9, 2) := by decide +kernel
theorem d_Ju_told_151 : decode (yB Y_Ju_told) 151 = .ok (.ldc 79, 2) := by decide +kernel
theorem d_Ju_told_153 : decode (yB Y_Ju_told) 153 = .ok (.if_icmp .eq 15, 3) := by decide +kernel
theorem d_Ju_told_156 : decode (yB Y_Ju_told) 156 = .ok (.iconst 0, 1) := by decide +kernel
theorem d_Ju_told_157 : decode (yB Y_Ju_told) 157 = .ok (.iload 9, 2) := by decide +kernel
theorem d_Ju_told_159 : decode (yB Y_Ju_told) 159 = .ok (.iload 5, 2) := by decide +kernel
theorem d_Ju_told_161 : decode (yB Y_Ju_told) 161 = .ok (.invokestatic 80, 3) := by decide +kernel
theorem d_Ju_told_164 : decode (yB Y_Ju_told) 164 = .ok (.invokestatic 85, 3) := by decide +kernel
theorem d_Ju_told_167 : decode (yB Y_Ju_told) 167 = .ok (.ireturn, 1) := by decide +kernel
theorem d_Ju_told_168 : decode (yB Y_Ju_told) 168 = .ok (.iinc 6 (-1), 3) := by decide +kernel
theorem d_Ju_told_171 : decode (yB Y_Ju_told) 171 = .ok (.goto (-124), 3) := by decide +kernel
theorem d_Ju_told_174 : decode (yB Y_Ju_told) 174 = .ok (.iload 4, 2) := by decide +kernel
theorem d_Ju_told_176 : decode (yB Y_Ju_told) 176 = .ok (.ireturn, 1) := by decide +kernel
def F_Ju_told_b168 (n : Nat) (E : zE) (S : zS) (r47 : Nat × Nat × Int32 × Int32 × Int32 × Int32 × zH → Option (Int32 × zH)) (a0 : Nat) (a2 : Nat) (x3 : Int32) (x4 : Int32) (x5 : Int32) (x6 : Int32) (M : zH) : Option (Int32 × zH) :=
  r47 (a0, a2, x3, x4, x5, x6 + (-1), M)
def F_Ju_told_b114 (n : Nat) (E : zE) (S : zS) (r47 : Nat × Nat × Int32 × Int32 × Int32 × Int32 × zH → Option (Int32 × zH)) (a0 : Nat) (a2 : Nat) (x3 : Int32) (x4 : Int32) (x5 : Int32) (x6 : Int32) (M : zH) : Option (Int32 × zH) :=
  if x3 = 3 then
    some (1, M)
  else
    (zgR S a0 1 0).bind fun b_2 =>
    (zck S a2 9).bind fun u_3 =>
    (F_Te_markOf n E S a2 x6 0 M).bind fun q_4 =>
    (F_Te_markOf n E S a2 x6 1 q_4.2).bind fun q_5 =>
    (zgR S a0 1 1).bind fun b_6 =>
    (zck S b_2 2).bind fun u_7 =>
    (F_Mc_work n E S b_2 a2 q_4.1 q_5.1 b_6 q_5.2).bind fun q_8 =>
    if q_8.1 = (-2147483648) then
      F_Ju_told_b168 n E S r47 a0 a2 x3 x4 x5 x6 q_8.2
    else
      (F_Jm_min n E S q_8.1 x5 q_8.2).bind fun q_10 =>
      (F_Jm_max n E S 0 q_10.1 q_10.2).bind fun q_11 =>
      some (q_11.1, q_11.2)
def F_Ju_told_L47 (n : Nat) (E : zE) (S : zS) (r47 : Nat × Nat × Int32 × Int32 × Int32 × Int32 × zH → Option (Int32 × zH)) (a0 : Nat) (a2 : Nat) (x3 : Int32) (x4 : Int32) (x5 : Int32) (x6 : Int32) (M : zH) : Option (Int32 × zH) :=
  if x6 < 0 then
    some (x4, M)
  else
    (zgR S a2 9 1).bind fun b_13 =>
    (zldI S M b_13 x6).bind fun v_14 =>
    if v_14 = x3 then
      (F_Te_markOf n E S a2 x6 2 M).bind fun q_16 =>
      (F_Te_markOf n E S a2 x6 3 q_16.2).bind fun q_17 =>
      if q_17.1 ≤ q_16.1 then
        F_Ju_told_b114 n E S r47 a0 a2 x3 x4 x5 x6 q_17.2
      else
        (zgR S a0 1 0).bind fun b_19 =>
        (zgR S a0 1 1).bind fun b_20 =>
        (zck S b_19 2).bind fun u_21 =>
        (F_Mc_work n E S b_19 a2 q_16.1 q_17.1 b_20 q_17.2).bind fun q_22 =>
        if q_22.1 = 1 then
          F_Ju_told_b114 n E S r47 a0 a2 x3 x4 x5 x6 q_22.2
        else
          F_Ju_told_b168 n E S r47 a0 a2 x3 x4 x5 x6 q_22.2
    else
      F_Ju_told_b168 n E S r47 a0 a2 x3 x4 x5 x6 M
def F_Ju_told_b47 (n : Nat) (E : zE) (S : zS) : Nat × Nat × Int32 × Int32 × Int32 × Int32 × zH → Option (Int32 × zH) := zfix (fun r47 s => F_Ju_told_L47 n E S r47 s.1 s.2.1 s.2.2.1 s.2.2.2.1 s.2.2.2.2.1 s.2.2.2.2.2.1 s.2.2.2.2.2.2) n
def F_Ju_told (n : Nat) (E : zE) (S : zS) (a0 : Nat) (a1 : Nat) (a2 : Nat) (x3 : Int32) (x4 : Int32) (x5 : Int32) (M : zH) : Option (Int32 × zH) :=
  (zgR S a0 1 1).bind fun b_24 =>
  (zgR S a1 3 9).bind fun b_25 =>
  (zldI S M b_25 0).bind fun v_26 =>
  (zstI S M b_24 6 v_26).bind fun m_27 =>
  (zldI S m_27 b_25 1).bind fun v_28 =>
  (zstI S m_27 b_24 7 v_28).bind fun m_29 =>
  (zldI S m_29 b_25 2).bind fun v_30 =>
  (zstI S m_29 b_24 8 v_30).bind fun m_31 =>
  (zgI S m_31 a2 9 6).bind fun v_32 =>
  F_Ju_told_b47 n E S (a0, a2, x3, x4, x5, v_32 - 1, m_31)
theorem K_Ju_told_b168 (n : Nat) (E : zE) (S : zS) (r47 : Nat × Nat × Int32 × Int32 × Int32 × Int32 × zH → Option (Int32 × zH)) (a0 : Nat) (a2 : Nat) (x3 : Int32) (x4 : Int32) (x5 : Int32) (x6 : Int32) (M : zH) (r : Int32) (M' : zH) (hr47 : ∀ (a0 : Nat) (a2 : Nat) (x3 : Int32) (x4 : Int32) (x5 : Int32) (x6 : Int32) (M : zH), r47 (a0, a2, x3, x4, x5, x6, M) = some (r, M') → zG E Y_Ju_told (some (.int r), S, M') 47 [(0, .ref a0), (2, .ref a2), (3, .int x3), (4, .int x4), (5, .int x5), (6, .int x6)] [] S M 0 0) (h : F_Ju_told_b168 n E S r47 a0 a2 x3 x4 x5 x6 M = some (r, M')) : zG E Y_Ju_told (some (.int r), S, M') 168 [(0, .ref a0), (2, .ref a2), (3, .int x3), (4, .int x4), (5, .int x5), (6, .int x6)] [] S M 0 0 := by
  unfold F_Ju_told_b168 at h
  refine zi_iinc 5 (x6 + (-1)) [(6, .int (x6 + (-1))), (0, .ref a0), (2, .ref a2), (3, .int x3), (4, .int x4), (5, .int x5)] d_Ju_told_168 rfl rfl (by decide) rfl ?_
  refine zi_goto (tgt := 47) d_Ju_told_171 rfl ?_
  refine zi_lo [(0, .ref a0), (2, .ref a2), (3, .int x3), (4, .int x4), (5, .int x5), (6, .int (x6 + (-1)))] [1, 2, 3, 4, 5, 0] rfl ?_
  exact hr47 a0 a2 x3 x4 x5 (x6 + (-1)) M h
theorem K_Ju_told_b114 (n : Nat) (E : zE) (S : zS) (r47 : Nat × Nat × Int32 × Int32 × Int32 × Int32 × zH → Option (Int32 × zH)) (a0 : Nat) (a2 : Nat) (x3 : Int32) (x4 : Int32) (x5 : Int32) (x6 : Int32) (M : zH) (r : Int32) (M' : zH) (hr47 : ∀ (a0 : Nat) (a2 : Nat) (x3 : Int32) (x4 : Int32) (x5 : Int32) (x6 : Int32) (M : zH), r47 (a0, a2, x3, x4, x5, x6, M) = some (r, M') → zG E Y_Ju_told (some (.int r), S, M') 47 [(0, .ref a0), (2, .ref a2), (3, .int x3), (4, .int x4), (5, .int x5), (6, .int x6)] [] S M 0 0) (h : F_Ju_told_b114 n E S r47 a0 a2 x3 x4 x5 x6 M = some (r, M')) : zG E Y_Ju_told (some (.int r), S, M') 114 [(0, .ref a0), (2, .ref a2), (3, .int x3), (4, .int x4), (5, .int x5), (6, .int x6)] [] S M 0 0 := by
  unfold F_Ju_told_b114 at h
  refine zi_iload_n 2 d_Ju_told_114 rfl ?_
  refine zi_iconst 3 d_Ju_told_115 rfl ?_
  refine zi_icmp_ne (tgt := 121) d_Ju_told_116 rfl (fun c_1 => ?_) (fun c_1 => ?_)
  · rw [if_neg c_1] at h
    refine zi_aload_n 0 d_Ju_told_121 rfl ?_
    obtain ⟨b_2, eb_2, h⟩ := zbind h
    refine zo_getR 125 zkd_1 0 d_Ju_told_122 eb_2 rfl tw_245 rfl ?_
    refine zi_aload_n 1 d_Ju_told_125 rfl ?_
    refine zi_aload_n 1 d_Ju_told_126 rfl ?_
    refine zi_iload 5 d_Ju_told_127 rfl ?_
    refine zi_iconst 0 d_Ju_told_129 rfl ?_
    obtain ⟨u_3, eu_3, h⟩ := zbind h
    obtain ⟨q_4, eq_4, h⟩ := zbind h
    refine zo_virt (k' := 0) (n' := 0) 133 [.int x6, .int 0] [.ref a2, .ref b_2] [.int q_4.1, .ref a2, .ref b_2] zkd_9 (zck_s eu_3) (C_Te_markOf n E S a2 x6 0 M q_4.1 q_4.2 eq_4) d_Ju_told_130 tw_426 tw_423 tw_424 tw_425 tw_7 dd_Te_markOf ⟨Nat.le_of_ble_eq_true rfl, Nat.le_of_ble_eq_true rfl, Nat.le_of_ble_eq_true rfl, Nat.le_of_ble_eq_true rfl⟩ (Nat.le_of_ble_eq_true rfl) rfl rfl rfl rfl ?_
    refine zi_aload_n 1 d_Ju_told_133 rfl ?_
    refine zi_iload 5 d_Ju_told_134 rfl ?_
    refine zi_iconst 1 d_Ju_told_136 rfl ?_
    obtain ⟨q_5, eq_5, h⟩ := zbind h
    refine zo_virt (k' := 0) (n' := 0) 140 [.int x6, .int 1] [.int q_4.1, .ref a2, .ref b_2] [.int q_5.1, .int q_4.1, .ref a2, .ref b_2] zkd_9 (zck_s eu_3) (C_Te_markOf n E S a2 x6 1 q_4.2 q_5.1 q_5.2 eq_5) d_Ju_told_137 tw_426 tw_423 tw_424 tw_425 tw_7 dd_Te_markOf ⟨Nat.le_of_ble_eq_true rfl, Nat.le_of_ble_eq_true rfl, Nat.le_of_ble_eq_true rfl, Nat.le_of_ble_eq_true rfl⟩ (Nat.le_of_ble_eq_true rfl) rfl rfl rfl rfl ?_
    refine zi_aload_n 0 d_Ju_told_140 rfl ?_
    obtain ⟨b_6, eb_6, h⟩ := zbind h
    refine zo_getR 144 zkd_1 1 d_Ju_told_141 eb_6 rfl tw_246 rfl ?_
    obtain ⟨u_7, eu_7, h⟩ := zbind h
    obtain ⟨q_8, eq_8, h⟩ := zbind h
    refine zo_virt (k' := 0) (n' := 0) 147 [.ref a2, .int q_4.1, .int q_5.1, .ref b_6] [] [.int q_8.1] zkd_2 (zck_s eu_7) (C_Mc_work n E S b_2 a2 q_4.1 q_5.1 b_6 q_5.2 q_8.1 q_8.2 eq_8) d_Ju_told_144 tw_430 tw_427 tw_428 tw_429 tw_9 dd_Mc_work ⟨Nat.le_of_ble_eq_true rfl, Nat.le_of_ble_eq_true rfl, Nat.le_of_ble_eq_true rfl, Nat.le_of_ble_eq_true rfl⟩ (Nat.le_of_ble_eq_true rfl) rfl rfl rfl rfl ?_
    refine zi_istore [(9, .int q_8.1), (0, .ref a0), (2, .ref a2), (3, .int x3), (4, .int x4), (5, .int x5), (6, .int x6)] d_Ju_told_147 (by decide) rfl ?_
    refine zi_iload 0 d_Ju_told_149 rfl ?_
    refine zi_ldc d_Ju_told_151 tw_434 ?_
    refine zi_icmp_eq (tgt := 168) d_Ju_told_153 rfl (fun c_9 => ?_) (fun c_9 => ?_)
    · rw [if_pos c_9] at h
      refine zi_lo [(0, .ref a0), (2, .ref a2), (3, .int x3), (4, .int x4), (5, .int x5), (6, .int x6)] [1, 2, 3, 4, 5, 6] rfl ?_
      exact K_Ju_told_b168 n E S r47 a0 a2 x3 x4 x5 x6 q_8.2 r M' hr47 h
    · rw [if_neg c_9] at h
      refine zi_iconst 0 d_Ju_told_156 rfl ?_
      refine zi_iload 0 d_Ju_told_157 rfl ?_
      refine zi_iload 5 d_Ju_told_159 rfl ?_
      obtain ⟨q_10, eq_10, h⟩ := zbind h
      refine zo_stat (k' := 0) (n' := 0) 164 [.int q_8.1, .int x5] [.int 0] [.int q_10.1, .int 0] (C_Jm_min n E S q_8.1 x5 q_8.2 q_10.1 q_10.2 eq_10) d_Ju_told_161 tw_437 tw_435 tw_436 tw_14 dd_Jm_min ⟨Nat.le_of_ble_eq_true rfl, Nat.le_of_ble_eq_true rfl, Nat.le_of_ble_eq_true rfl, Nat.le_of_ble_eq_true rfl⟩ (Nat.le_of_ble_eq_true rfl) rfl rfl rfl rfl ?_
      obtain ⟨q_11, eq_11, h⟩ := zbind h
      refine zo_stat (k' := 0) (n' := 0) 167 [.int 0, .int q_10.1] [] [.int q_11.1] (C_Jm_max n E S 0 q_10.1 q_10.2 q_11.1 q_11.2 eq_11) d_Ju_told_164 tw_440 tw_438 tw_439 tw_14 dd_Jm_max ⟨Nat.le_of_ble_eq_true rfl, Nat.le_of_ble_eq_true rfl, Nat.le_of_ble_eq_true rfl, Nat.le_of_ble_eq_true rfl⟩ (Nat.le_of_ble_eq_true rfl) rfl rfl rfl rfl ?_
      cases h
      exact zo_ret d_Ju_told_167 (Nat.le_of_ble_eq_true rfl) (Nat.le_of_ble_eq_true rfl) rfl
  · rw [if_pos c_1] at h
    refine zi_iconst 1 d_Ju_told_119 rfl ?_
    cases h
    exact zo_ret d_Ju_told_120 (Nat.le_of_ble_eq_true rfl) (Nat.le_of_ble_eq_true rfl) rfl
theorem K_Ju_told_L47 (n : Nat) (E : zE) (S : zS) (r47 : Nat × Nat × Int32 × Int32 × Int32 × Int32 × zH → Option (Int32 × zH)) (a0 : Nat) (a2 : Nat) (x3 : Int32) (x4 : Int32) (x5 : Int32) (x6 : Int32) (M : zH) (r : Int32) (M' : zH) (hr47 : ∀ (a0 : Nat) (a2 : Nat) (x3 : Int32) (x4 : Int32) (x5 : Int32) (x6 : Int32) (M : zH), r47 (a0, a2, x3, x4, x5, x6, M) = some (r, M') → zG E Y_Ju_told (some (.int r), S, M') 47 [(0, .ref a0), (2, .ref a2), (3, .int x3), (4, .int x4), (5, .int x5), (6, .int x6)] [] S M 0 0) (h : F_Ju_told_L47 n E S r47 a0 a2 x3 x4 x5 x6 M = some (r, M')) : zG E Y_Ju_told (some (.int r), S, M') 47 [(0, .ref a0), (2, .ref a2), (3, .int x3), (4, .int x4), (5, .int x5), (6, .int x6)] [] S M 0 0 := by
  unfold F_Ju_told_L47 at h
  refine zi_iload 5 d_Ju_told_47 rfl ?_
  refine zi_if_lt (tgt := 174) d_Ju_told_49 rfl (fun c_12 => ?_) (fun c_12 => ?_)
  · rw [if_pos c_12] at h
    refine zi_iload 3 d_Ju_told_174 rfl ?_
    cases h
    exact zo_ret d_Ju_told_176 (Nat.le_of_ble_eq_true rfl) (Nat.le_of_ble_eq_true rfl) rfl
  · rw [if_neg c_12] at h
    refine zi_aload_n 1 d_Ju_told_52 rfl ?_
    obtain ⟨b_13, eb_13, h⟩ := zbind h
    refine zo_getR 56 zkd_9 1 d_Ju_told_53 eb_13 rfl tw_189 rfl ?_
    refine zi_iload 5 d_Ju_told_56 rfl ?_
    obtain ⟨v_14, ev_14, h⟩ := zbind h
    refine zo_iald 59 d_Ju_told_58 ev_14 rfl ?_
    refine zi_iload_n 2 d_Ju_told_59 rfl ?_
    refine zi_icmp_eq (tgt := 66) d_Ju_told_60 rfl (fun c_15 => ?_) (fun c_15 => ?_)
    · rw [if_pos c_15] at h
      refine zi_aload_n 1 d_Ju_told_66 rfl ?_
      refine zi_iload 5 d_Ju_told_67 rfl ?_
      refine zi_iconst 2 d_Ju_told_69 rfl ?_
      obtain ⟨q_16, eq_16, h⟩ := zbind h
      refine zo_virt (k' := 0) (n' := 0) 73 [.int x6, .int 2] [] [.int q_16.1] zkd_9 (zgR_s eb_13).1 (C_Te_markOf n E S a2 x6 2 M q_16.1 q_16.2 eq_16) d_Ju_told_70 tw_426 tw_423 tw_424 tw_425 tw_7 dd_Te_markOf ⟨Nat.le_of_ble_eq_true rfl, Nat.le_of_ble_eq_true rfl, Nat.le_of_ble_eq_true rfl, Nat.le_of_ble_eq_true rfl⟩ (Nat.le_of_ble_eq_true rfl) rfl rfl rfl rfl ?_
      refine zi_istore [(7, .int q_16.1), (0, .ref a0), (2, .ref a2), (3, .int x3), (4, .int x4), (5, .int x5), (6, .int x6)] d_Ju_told_73 (by decide) rfl ?_
      refine zi_aload_n 2 d_Ju_told_75 rfl ?_
      refine zi_iload 6 d_Ju_told_76 rfl ?_
      refine zi_iconst 3 d_Ju_told_78 rfl ?_
      obtain ⟨q_17, eq_17, h⟩ := zbind h
      refine zo_virt (k' := 0) (n' := 0) 82 [.int x6, .int 3] [] [.int q_17.1] zkd_9 (zgR_s eb_13).1 (C_Te_markOf n E S a2 x6 3 q_16.2 q_17.1 q_17.2 eq_17) d_Ju_told_79 tw_426 tw_423 tw_424 tw_425 tw_7 dd_Te_markOf ⟨Nat.le_of_ble_eq_true rfl, Nat.le_of_ble_eq_true rfl, Nat.le_of_ble_eq_true rfl, Nat.le_of_ble_eq_true rfl⟩ (Nat.le_of_ble_eq_true rfl) rfl rfl rfl rfl ?_
      refine zi_istore [(8, .int q_17.1), (7, .int q_16.1), (0, .ref a0), (2, .ref a2), (3, .int x3), (4, .int x4), (5, .int x5), (6, .int x6)] d_Ju_told_82 (by decide) rfl ?_
      refine zi_iload 1 d_Ju_told_84 rfl ?_
      refine zi_iload 0 d_Ju_told_86 rfl ?_
      refine zi_icmp_ge (tgt := 114) d_Ju_told_88 rfl (fun c_18 => ?_) (fun c_18 => ?_)
      · rw [if_pos c_18] at h
        refine zi_lo [(0, .ref a0), (2, .ref a2), (3, .int x3), (4, .int x4), (5, .int x5), (6, .int x6)] [2, 3, 4, 5, 6, 7] rfl ?_
        exact K_Ju_told_b114 n E S r47 a0 a2 x3 x4 x5 x6 q_17.2 r M' hr47 h
      · rw [if_neg c_18] at h
        refine zi_aload_n 2 d_Ju_told_91 rfl ?_
        obtain ⟨b_19, eb_19, h⟩ := zbind h
        refine zo_getR 95 zkd_1 0 d_Ju_told_92 eb_19 rfl tw_245 rfl ?_
        refine zi_aload_n 3 d_Ju_told_95 rfl ?_
        refine zi_iload 1 d_Ju_told_96 rfl ?_
        refine zi_iload 0 d_Ju_told_98 rfl ?_
        refine zi_aload_n 2 d_Ju_told_100 rfl ?_
        obtain ⟨b_20, eb_20, h⟩ := zbind h
        refine zo_getR 104 zkd_1 1 d_Ju_told_101 eb_20 rfl tw_246 rfl ?_
        obtain ⟨u_21, eu_21, h⟩ := zbind h
        obtain ⟨q_22, eq_22, h⟩ := zbind h
        refine zo_virt (k' := 0) (n' := 0) 107 [.ref a2, .int q_16.1, .int q_17.1, .ref b_20] [] [.int q_22.1] zkd_2 (zck_s eu_21) (C_Mc_work n E S b_19 a2 q_16.1 q_17.1 b_20 q_17.2 q_22.1 q_22.2 eq_22) d_Ju_told_104 tw_430 tw_427 tw_428 tw_429 tw_9 dd_Mc_work ⟨Nat.le_of_ble_eq_true rfl, Nat.le_of_ble_eq_true rfl, Nat.le_of_ble_eq_true rfl, Nat.le_of_ble_eq_true rfl⟩ (Nat.le_of_ble_eq_true rfl) rfl rfl rfl rfl ?_
        refine zi_iconst 1 d_Ju_told_107 rfl ?_
        refine zi_icmp_eq (tgt := 114) d_Ju_told_108 rfl (fun c_23 => ?_) (fun c_23 => ?_)
        · rw [if_pos c_23] at h
          refine zi_lo [(0, .ref a0), (2, .ref a2), (3, .int x3), (4, .int x4), (5, .int x5), (6, .int x6)] [2, 3, 4, 5, 6, 7] rfl ?_
          exact K_Ju_told_b114 n E S r47 a0 a2 x3 x4 x5 x6 q_22.2 r M' hr47 h
        · rw [if_neg c_23] at h
          refine zi_goto (tgt := 168) d_Ju_told_111 rfl ?_
          refine zi_lo [(0, .ref a0), (2, .ref a2), (3, .int x3), (4, .int x4), (5, .int x5), (6, .int x6)] [2, 3, 4, 5, 6, 7] rfl ?_
          exact K_Ju_told_b168 n E S r47 a0 a2 x3 x4 x5 x6 q_22.2 r M' hr47 h
    · rw [if_neg c_15] at h
      refine zi_goto (tgt := 168) d_Ju_told_63 rfl ?_
      refine zi_lo [(0, .ref a0), (2, .ref a2), (3, .int x3), (4, .int x4), (5, .int x5), (6, .int x6)] [0, 1, 2, 3, 4, 5] rfl ?_
      exact K_Ju_told_b168 n E S r47 a0 a2 x3 x4 x5 x6 M r M' hr47 h
theorem K_Ju_told_b47 (n : Nat) (E : zE) (S : zS) (a0 : Nat) (a2 : Nat) (x3 : Int32) (x4 : Int32) (x5 : Int32) (x6 : Int32) (M : zH) (r : Int32) (M' : zH)  (h : F_Ju_told_b47 n E S (a0, a2, x3, x4, x5, x6, M) = some (r, M')) : zG E Y_Ju_told (some (.int r), S, M') 47 [(0, .ref a0), (2, .ref a2), (3, .int x3), (4, .int x4), (5, .int x5), (6, .int x6)] [] S M 0 0 := by
  have key : ∀ (k : Nat) (a0 : Nat) (a2 : Nat) (x3 : Int32) (x4 : Int32) (x5 : Int32) (x6 : Int32) (M : zH), zfix (fun r47 s => F_Ju_told_L47 n E S r47 s.1 s.2.1 s.2.2.1 s.2.2.2.1 s.2.2.2.2.1 s.2.2.2.2.2.1 s.2.2.2.2.2.2) k (a0, a2, x3, x4, x5, x6, M) = some (r, M') → zG E Y_Ju_told (some (.int r), S, M') 47 [(0, .ref a0), (2, .ref a2), (3, .int x3), (4, .int x4), (5, .int x5), (6, .int x6)] [] S M 0 0 := by
    intro k
    induction k with
    | zero => intro a0 a2 x3 x4 x5 x6 M h; cases h
    | succ k ih => intro a0 a2 x3 x4 x5 x6 M h; exact K_Ju_told_L47 n E S _ a0 a2 x3 x4 x5 x6 M r M'  (fun a0 a2 x3 x4 x5 x6 M h => ih a0 a2 x3 x4 x5 x6 M h) h
  exact key n a0 a2 x3 x4 x5 x6 M h
theorem K_Ju_told (n : Nat) (E : zE) (S : zS) (a0 : Nat) (a1 : Nat) (a2 : Nat) (x3 : Int32) (x4 : Int32) (x5 : Int32) (M : zH) (r : Int32) (M' : zH)  (h : F_Ju_told n E S a0 a1 a2 x3 x4 x5 M = some (r, M')) : zG E Y_Ju_told (some (.int r), S, M') 0 [(0, .ref a0), (1, .ref a1), (2, .ref a2), (3, .int x3), (4, .int x4), (5, .int x5)] [] S M 0 0 := by
  unfold F_Ju_told at h
  refine zi_aload_n 0 d_Ju_told_0 rfl ?_
  obtain ⟨b_24, eb_24, h⟩ := zbind h
  refine zo_getR 4 zkd_1 1 d_Ju_told_1 eb_24 rfl tw_246 rfl ?_
  refine zi_bipush 6 d_Ju_told_4 rfl ?_
  refine zi_aload_n 1 d_Ju_told_6 rfl ?_
  obtain ⟨b_25, eb_25, h⟩ := zbind h
  refine zo_getR 10 zkd_3 9 d_Ju_told_7 eb_25 rfl tw_81 rfl ?_
  refine zi_iconst 0 d_Ju_told_10 rfl ?_
  obtain ⟨v_26, ev_26, h⟩ := zbind h
  refine zo_iald 12 d_Ju_told_11 ev_26 rfl ?_
  obtain ⟨m_27, em_27, h⟩ := zbind h
  refine zo_iast 13 d_Ju_told_12 em_27 rfl ?_
  refine zi_aload_n 0 d_Ju_told_13 rfl ?_
  refine zo_getR 17 zkd_1 1 d_Ju_told_14 eb_24 rfl tw_246 rfl ?_
  refine zi_bipush 7 d_Ju_told_17 rfl ?_
  refine zi_aload_n 1 d_Ju_told_19 rfl ?_
  refine zo_getR 23 zkd_3 9 d_Ju_told_20 eb_25 rfl tw_81 rfl ?_
  refine zi_iconst 1 d_Ju_told_23 rfl ?_
  obtain ⟨v_28, ev_28, h⟩ := zbind h
  refine zo_iald 25 d_Ju_told_24 ev_28 rfl ?_
  obtain ⟨m_29, em_29, h⟩ := zbind h
  refine zo_iast 26 d_Ju_told_25 em_29 rfl ?_
  refine zi_aload_n 0 d_Ju_told_26 rfl ?_
  refine zo_getR 30 zkd_1 1 d_Ju_told_27 eb_24 rfl tw_246 rfl ?_
  refine zi_bipush 8 d_Ju_told_30 rfl ?_
  refine zi_aload_n 1 d_Ju_told_32 rfl ?_
  refine zo_getR 36 zkd_3 9 d_Ju_told_33 eb_25 rfl tw_81 rfl ?_
  refine zi_iconst 2 d_Ju_told_36 rfl ?_
  obtain ⟨v_30, ev_30, h⟩ := zbind h
  refine zo_iald 38 d_Ju_told_37 ev_30 rfl ?_
  obtain ⟨m_31, em_31, h⟩ := zbind h
  refine zo_iast 39 d_Ju_told_38 em_31 rfl ?_
  refine zi_aload_n 2 d_Ju_told_39 rfl ?_
  obtain ⟨v_32, ev_32, h⟩ := zbind h
  refine zo_getI 43 zkd_9 6 d_Ju_told_40 ev_32 rfl tw_199 rfl ?_
  refine zi_iconst 1 d_Ju_told_43 rfl ?_
  refine zi_isub d_Ju_told_44 ?_
  refine zi_istore [(6, .int (v_32 - 1)), (0, .ref a0), (1, .ref a1), (2, .ref a2), (3, .int x3), (4, .int x4), (5, .int x5)] d_Ju_told_45 (by decide) rfl ?_
  refine zi_lo [(0, .ref a0), (2, .ref a2), (3, .int x3), (4, .int x4), (5, .int x5), (6, .int (v_32 - 1))] [1, 3, 4, 5, 6, 0] rfl ?_
  exact K_Ju_told_b47 n E S a0 a2 x3 x4 x5 (v_32 - 1) m_31 r M'  h
theorem C_Ju_told (n : Nat) (E : zE) (S : zS) (a0 : Nat) (a1 : Nat) (a2 : Nat) (x3 : Int32) (x4 : Int32) (x5 : Int32) (M : zH) (r : Int32) (M' : zH) (h : F_Ju_told n E S a0 a1 a2 x3 x4 x5 M = some (r, M')) : zC E Y_Ju_told [.ref a0, .ref a1, .ref a2, .int x3, .int x4, .int x5] S M (some (.int r), S, M') :=
  zC.of (Or.inl (show plainName "NightColander$Judge" = true by decide)) (Nat.le_of_ble_eq_true rfl) (trivial) (K_Ju_told n E S a0 a1 a2 x3 x4 x5 M r M' h)
theorem d_Jm_floorMod_0 : decode (yB Y_Jm_floorMod) 0 = .ok (.iload_n 0, 1) := by decide +kernel
theorem d_Jm_floorMod_1 : decode (yB Y_Jm_floorMod) 1 = .ok (.iload_n 1, 1) := by decide +kernel
theorem d_Jm_floorMod_2 : decode (yB Y_Jm_floorMod) 2 = .ok (.irem, 1) := by decide +kernel
theorem d_Jm_floorMod_3 : decode (yB Y_Jm_floorMod) 3 = .ok (.istore_n 2, 1) := by decide +kernel
theorem d_Jm_floorMod_4 : decode (yB Y_Jm_floorMod) 4 = .ok (.iload_n 0, 1) := by decide +kernel
theorem d_Jm_floorMod_5 : decode (yB Y_Jm_floorMod) 5 = .ok (.iload_n 1, 1) := by decide +kernel
theorem d_Jm_floorMod_6 : decode (yB Y_Jm_floorMod) 6 = .ok (.ixor, 1) := by decide +kernel
theorem d_Jm_floorMod_7 : decode (yB Y_Jm_floorMod) 7 = .ok (.ifCond .ge 11, 3) := by decide +kernel
theorem d_Jm_floorMod_10 : decode (yB Y_Jm_floorMod) 10 = .ok (.iload_n 2, 1) := by decide +kernel
theorem d_Jm_floorMod_11 : decode (yB Y_Jm_floorMod) 11 = .ok (.ifCond .eq 7, 3) := by decide +kernel
theorem d_Jm_floorMod_14 : decode (yB Y_Jm_floorMod) 14 = .ok (.iload_n 2, 1) := by decide +kernel
theorem d_Jm_floorMod_15 : decode (yB Y_Jm_floorMod) 15 = .ok (.iload_n 1, 1) := by decide +kernel
theorem d_Jm_floorMod_16 : decode (yB Y_Jm_floorMod) 16 = .ok (.iadd, 1) := by decide +kernel
theorem d_Jm_floorMod_17 : decode (yB Y_Jm_floorMod) 17 = .ok (.ireturn, 1) := by decide +kernel
theorem d_Jm_floorMod_18 : decode (yB Y_Jm_floorMod) 18 = .ok (.iload_n 2, 1) := by decide +kernel
theorem d_Jm_floorMod_19 : decode (yB Y_Jm_floorMod) 19 = .ok (.ireturn, 1) := by decide +kernel
def F_Jm_floorMod (n : Nat) (E : zE) (S : zS) (x0 : Int32) (x1 : Int32) (M : zH) : Option (Int32 × zH) :=
  (zremI x0 x1).bind fun v_1 =>
  if 0 ≤ (x0 ^^^ x1) then
    some (v_1, M)
  else
    if v_1 = 0 then
      some (v_1, M)
    else
      some (v_1 + x1, M)
theorem K_Jm_floorMod (n : Nat) (E : zE) (S : zS) (x0 : Int32) (x1 : Int32) (M : zH) (r : Int32) (M' : zH)  (h : F_Jm_floorMod n E S x0 x1 M = some (r, M')) : zG E Y_Jm_floorMod (some (.int r), S, M') 0 [(0, .int x0), (1, .int x1)] [] S M 0 0 := by
  unfold F_Jm_floorMod at h
  refine zi_iload_n 0 d_Jm_floorMod_0 rfl ?_
  refine zi_iload_n 1 d_Jm_floorMod_1 rfl ?_
  obtain ⟨v_1, ev_1, h⟩ := zbind h
  refine zo_irem 3 d_Jm_floorMod_2 ev_1 rfl ?_
  refine zi_istore_n [(2, .int v_1), (0, .int x0), (1, .int x1)] d_Jm_floorMod_3 (by decide) rfl ?_
  refine zi_iload_n 1 d_Jm_floorMod_4 rfl ?_
  refine zi_iload_n 2 d_Jm_floorMod_5 rfl ?_
  refine zi_ixor d_Jm_floorMod_6 ?_
  refine zi_if_ge (tgt := 18) d_Jm_floorMod_7 rfl (fun c_2 => ?_) (fun c_2 => ?_)
  · rw [if_pos c_2] at h
    refine zi_iload_n 0 d_Jm_floorMod_18 rfl ?_
    cases h
    exact zo_ret d_Jm_floorMod_19 (Nat.le_of_ble_eq_true rfl) (Nat.le_of_ble_eq_true rfl) rfl
  · rw [if_neg c_2] at h
    refine zi_iload_n 0 d_Jm_floorMod_10 rfl ?_
    refine zi_if_eq (tgt := 18) d_Jm_floorMod_11 rfl (fun c_3 => ?_) (fun c_3 => ?_)
    · rw [if_pos c_3] at h
      refine zi_iload_n 0 d_Jm_floorMod_18 rfl ?_
      cases h
      exact zo_ret d_Jm_floorMod_19 (Nat.le_of_ble_eq_true rfl) (Nat.le_of_ble_eq_true rfl) rfl
    · rw [if_neg c_3] at h
      refine zi_iload_n 0 d_Jm_floorMod_14 rfl ?_
      refine zi_iload_n 2 d_Jm_floorMod_15 rfl ?_
      refine zi_iadd d_Jm_floorMod_16 ?_
      cases h
      exact zo_ret d_Jm_floorMod_17 (Nat.le_of_ble_eq_true rfl) (Nat.le_of_ble_eq_true rfl) rfl
theorem C_Jm_floorMod (n : Nat) (E : zE) (S : zS) (x0 : Int32) (x1 : Int32) (M : zH) (r : Int32) (M' : zH) (h : F_Jm_floorMod n E S x0 x1 M = some (r, M')) : zC E Y_Jm_floorMod [.int x0, .int x1] S M (some (.int r), S, M') :=
  zC.of (Or.inr (show plainFor ⟨"java/lang/Math","floorMod","(II)I"⟩ = true by decide +kernel)) (Nat.le_of_ble_eq_true rfl) (trivial) (K_Jm_floorMod n E S x0 x1 M r M' h)
theorem d_Ni_fieldBelow_0 : decode (yB Y_Ni_fieldBelow) 0 = .ok (.iload_n 2, 1) := by decide +kernel
theorem d_Ni_fieldBelow_1 : decode (yB Y_Ni_fieldBelow) 1 = .ok (.aload_n 0, 1) := by decide +kernel
theorem d_Ni_fieldBelow_2 : decode (yB Y_Ni_fieldBelow) 2 = .ok (.getfield 19, 3) := by decide +kernel
theorem d_Ni_fieldBelow_5 : decode (yB Y_Ni_fieldBelow) 5 = .ok (.iload_n 1, 1) := by decide +kernel
theorem d_Ni_fieldBelow_6 : decode (yB Y_Ni_fieldBelow) 6 = .ok (.iaload, 1) := by decide +kernel
theorem d_Ni_fieldBelow_7 : decode (yB Y_Ni_fieldBelow) 7 = .ok (.iadd, 1) := by decide +kernel
theorem d_Ni_fieldBelow_8 : decode (yB Y_Ni_fieldBelow) 8 = .ok (.bipush 8, 2) := by decide +kernel
theorem d_Ni_fieldBelow_10 : decode (yB Y_Ni_fieldBelow) 10 = .ok (.invokestatic 78, 3) := by decide +kernel
theorem d_Ni_fieldBelow_13 : decode (yB Y_Ni_fieldBelow) 13 = .ok (.ireturn, 1) := by decide +kernel
def F_Ni_fieldBelow (n : Nat) (E : zE) (S : zS) (a0 : Nat) (x1 : Int32) (x2 : Int32) (M : zH) : Option (Int32 × zH) :=
  (zgR S a0 3 2).bind fun b_1 =>
  (zldI S M b_1 x1).bind fun v_2 =>
  (F_Jm_floorMod n E S (x2 + v_2) 8 M).bind fun q_3 =>
  some (q_3.1, q_3.2)
theorem K_Ni_fieldBelow (n : Nat) (E : zE) (S : zS) (a0 : Nat) (x1 : Int32) (x2 : Int32) (M : zH) (r : Int32) (M' : zH)  (h : F_Ni_fieldBelow n E S a0 x1 x2 M = some (r, M')) : zG E Y_Ni_fieldBelow (some (.int r), S, M') 0 [(0, .ref a0), (1, .int x1), (2, .int x2)] [] S M 0 0 := by
  unfold F_Ni_fieldBelow at h
  refine zi_iload_n 2 d_Ni_fieldBelow_0 rfl ?_
  refine zi_aload_n 0 d_Ni_fieldBelow_1 rfl ?_
  obtain ⟨b_1, eb_1, h⟩ := zbind h
  refine zo_getR 5 zkd_3 2 d_Ni_fieldBelow_2 eb_1 rfl tw_52 rfl ?_
  refine zi_iload_n 1 d_Ni_fieldBelow_5 rfl ?_
  obtain ⟨v_2, ev_2, h⟩ := zbind h
  refine zo_iald 7 d_Ni_fieldBelow_6 ev_2 rfl ?_
  refine zi_iadd d_Ni_fieldBelow_7 ?_
  refine zi_bipush 8 d_Ni_fieldBelow_8 rfl ?_
  obtain ⟨q_3, eq_3, h⟩ := zbind h
  refine zo_stat (k' := 0) (n' := 0) 13 [.int (x2 + v_2), .int 8] [] [.int q_3.1] (C_Jm_floorMod n E S (x2 + v_2) 8 M q_3.1 q_3.2 eq_3) d_Ni_fieldBelow_10 tw_409 tw_407 tw_408 tw_14 dd_Jm_floorMod ⟨Nat.le_of_ble_eq_true rfl, Nat.le_of_ble_eq_true rfl, Nat.le_of_ble_eq_true rfl, Nat.le_of_ble_eq_true rfl⟩ (Nat.le_of_ble_eq_true rfl) rfl rfl rfl rfl ?_
  cases h
  exact zo_ret d_Ni_fieldBelow_13 (Nat.le_of_ble_eq_true rfl) (Nat.le_of_ble_eq_true rfl) rfl
theorem C_Ni_fieldBelow (n : Nat) (E : zE) (S : zS) (a0 : Nat) (x1 : Int32) (x2 : Int32) (M : zH) (r : Int32) (M' : zH) (h : F_Ni_fieldBelow n E S a0 x1 x2 M = some (r, M')) : zC E Y_Ni_fieldBelow [.ref a0, .int x1, .int x2] S M (some (.int r), S, M') :=
  zC.of (Or.inl (show plainName "NightColander$Night" = true by decide)) (Nat.le_of_ble_eq_true rfl) (trivial) (K_Ni_fieldBelow n E S a0 x1 x2 M r M' h)
theorem d_Ni_lawInForce_0 : decode (yB Y_Ni_lawInForce) 0 = .ok (.aload_n 0, 1) := by decide +kernel
theorem d_Ni_lawInForce_1 : decode (yB Y_Ni_lawInForce) 1 = .ok (.getfield 59, 3) := by decide +kernel
theorem d_Ni_lawInForce_4 : decode (yB Y_Ni_lawInForce) 4 = .ok (.ifCond .lt 24, 3) := by decide +kernel
theorem d_Ni_lawInForce_7 : decode (yB Y_Ni_lawInForce) 7 = .ok (.aload_n 0, 1) := by decide +kernel
theorem d_Ni_lawInForce_8 : decode (yB Y_Ni_lawInForce) 8 = .ok (.getfield 59, 3) := by decide +kernel
theorem d_Ni_lawInForce_11 : decode (yB Y_Ni_lawInForce) 11 = .ok (.bipush 6, 2) := by decide +kernel
theorem d_Ni_lawInForce_13 : decode (yB Y_Ni_lawInForce) 13 = .ok (.if_icmp .ge 15, 3) := by decide +kernel
theorem d_Ni_lawInForce_16 : decode (yB Y_Ni_lawInForce) 16 = .ok (.aload_n 0, 1) := by decide +kernel
theorem d_Ni_lawInForce_17 : decode (yB Y_Ni_lawInForce) 17 = .ok (.getfield 45, 3) := by decide +kernel
theorem d_Ni_lawInForce_20 : decode (yB Y_Ni_lawInForce) 20 = .ok (.aload_n 0, 1) := by decide +kernel
theorem d_Ni_lawInForce_21 : decode (yB Y_Ni_lawInForce) 21 = .ok (.getfield 59, 3) := by decide +kernel
theorem d_Ni_lawInForce_24 : decode (yB Y_Ni_lawInForce) 24 = .ok (.aaload, 1) := by decide +kernel
theorem d_Ni_lawInForce_25 : decode (yB Y_Ni_lawInForce) 25 = .ok (.goto 4, 3) := by decide +kernel
theorem d_Ni_lawInForce_28 : decode (yB Y_Ni_lawInForce) 28 = .ok (.aconst_null, 1) := by decide +kernel
theorem d_Ni_lawInForce_29 : decode (yB Y_Ni_lawInForce) 29 = .ok (.areturn, 1) := by decide +kernel
def F_Ni_lawInForce_b28 (n : Nat) (E : zE) (S : zS)  (M : zH) : Option (Option Nat × zH) :=
  some (none, M)
def F_Ni_lawInForce (n : Nat) (E : zE) (S : zS) (a0 : Nat) (M : zH) : Option (Option Nat × zH) :=
  (zgI S M a0 3 14).bind fun v_1 =>
  if v_1 < 0 then
    F_Ni_lawInForce_b28 n E S  M
  else
    (zgI S M a0 3 14).bind fun v_3 =>
    if 6 ≤ v_3 then
      F_Ni_lawInForce_b28 n E S  M
    else
      (zgR S a0 3 10).bind fun b_5 =>
      (zgI S M a0 3 14).bind fun v_6 =>
      (zldR S M 16 b_5 v_6).bind fun o_7 =>
      some (o_7, M)
theorem K_Ni_lawInForce_b28 (n : Nat) (E : zE) (S : zS)  (M : zH) (r : Option Nat) (M' : zH)  (h : F_Ni_lawInForce_b28 n E S  M = some (r, M')) : zG E Y_Ni_lawInForce (some (va_rf r), S, M') 28 [] [] S M 0 0 := by
  unfold F_Ni_lawInForce_b28 at h
  refine zi_null d_Ni_lawInForce_28 ?_
  cases h
  exact zo_ret d_Ni_lawInForce_29 (Nat.le_of_ble_eq_true rfl) (Nat.le_of_ble_eq_true rfl) rfl
theorem K_Ni_lawInForce (n : Nat) (E : zE) (S : zS) (a0 : Nat) (M : zH) (r : Option Nat) (M' : zH)  (h : F_Ni_lawInForce n E S a0 M = some (r, M')) : zG E Y_Ni_lawInForce (some (va_rf r), S, M') 0 [(0, .ref a0)] [] S M 0 0 := by
  unfold F_Ni_lawInForce at h
  refine zi_aload_n 0 d_Ni_lawInForce_0 rfl ?_
  obtain ⟨v_1, ev_1, h⟩ := zbind h
  refine zo_getI 4 zkd_3 14 d_Ni_lawInForce_1 ev_1 rfl tw_95 rfl ?_
  refine zi_if_lt (tgt := 28) d_Ni_lawInForce_4 rfl (fun c_2 => ?_) (fun c_2 => ?_)
  · rw [if_pos c_2] at h
    refine zi_lo [] [] rfl ?_
    exact K_Ni_lawInForce_b28 n E S  M r M'  h
  · rw [if_neg c_2] at h
    refine zi_aload_n 0 d_Ni_lawInForce_7 rfl ?_
    obtain ⟨v_3, ev_3, h⟩ := zbind h
    refine zo_getI 11 zkd_3 14 d_Ni_lawInForce_8 ev_3 rfl tw_95 rfl ?_
    refine zi_bipush 6 d_Ni_lawInForce_11 rfl ?_
    refine zi_icmp_ge (tgt := 28) d_Ni_lawInForce_13 rfl (fun c_4 => ?_) (fun c_4 => ?_)
    · rw [if_pos c_4] at h
      refine zi_lo [] [] rfl ?_
      exact K_Ni_lawInForce_b28 n E S  M r M'  h
    · rw [if_neg c_4] at h
      refine zi_aload_n 0 d_Ni_lawInForce_16 rfl ?_
      obtain ⟨b_5, eb_5, h⟩ := zbind h
      refine zo_getR 20 zkd_3 10 d_Ni_lawInForce_17 eb_5 rfl tw_85 rfl ?_
      refine zi_aload_n 0 d_Ni_lawInForce_20 rfl ?_
      obtain ⟨v_6, ev_6, h⟩ := zbind h
      refine zo_getI 24 zkd_3 14 d_Ni_lawInForce_21 ev_6 rfl tw_95 rfl ?_
      obtain ⟨o_7, eo_7, h⟩ := zbind h
      refine zo_aald 25 d_Ni_lawInForce_24 eo_7 (by decide) rfl ?_
      refine zi_goto (tgt := 29) d_Ni_lawInForce_25 rfl ?_
      cases h
      exact zo_ret d_Ni_lawInForce_29 (Nat.le_of_ble_eq_true rfl) (Nat.le_of_ble_eq_true rfl) rfl
theorem C_Ni_lawInForce (n : Nat) (E : zE) (S : zS) (a0 : Nat) (M : zH) (r : Option Nat) (M' : zH) (h : F_Ni_lawInForce n E S a0 M = some (r, M')) : zC E Y_Ni_lawInForce [.ref a0] S M (some (va_rf r), S, M') :=
  zC.of (Or.inl (show plainName "NightColander$Night" = true by decide)) (Nat.le_of_ble_eq_true rfl) (by cases r <;> trivial) (K_Ni_lawInForce n E S a0 M r M' h)
theorem d_Ju_runsOf_0 : decode (yB Y_Ju_runsOf) 0 = .ok (.aload_n 1, 1) := by decide +kernel
theorem d_Ju_runsOf_1 : decode (yB Y_Ju_runsOf) 1 = .ok (.getfield 22, 3) := by decide +kernel
theorem d_Ju_runsOf_4 : decode (yB Y_Ju_runsOf) 4 = .ok (.iload_n 2, 1) := by decide +kernel
theorem d_Ju_runsOf_5 : decode (yB Y_Ju_runsOf) 5 = .ok (.bipush 8, 2) := by decide +kernel
theorem d_Ju_runsOf_7 : decode (yB Y_Ju_runsOf) 7 = .ok (.imul, 1) := by decide +kernel
theorem d_Ju_runsOf_8 : decode (yB Y_Ju_runsOf) 8 = .ok (.iload_n 3, 1) := by decide +kernel
theorem d_Ju_runsOf_9 : decode (yB Y_Ju_runsOf) 9 = .ok (.iadd, 1) := by decide +kernel
theorem d_Ju_runsOf_10 : decode (yB Y_Ju_runsOf) 10 = .ok (.iaload, 1) := by decide +kernel
theorem d_Ju_runsOf_11 : decode (yB Y_Ju_runsOf) 11 = .ok (.istore 4, 2) := by decide +kernel
theorem d_Ju_runsOf_13 : decode (yB Y_Ju_runsOf) 13 = .ok (.iload 4, 2) := by decide +kernel
theorem d_Ju_runsOf_15 : decode (yB Y_Ju_runsOf) 15 = .ok (.aload_n 1, 1) := by decide +kernel
theorem d_Ju_runsOf_16 : decode (yB Y_Ju_runsOf) 16 = .ok (.getfield 27, 3) := by decide +kernel
theorem d_Ju_runsOf_19 : decode (yB Y_Ju_runsOf) 19 = .ok (.iconst 1, 1) := by decide +kernel
theorem d_Ju_runsOf_20 : decode (yB Y_Ju_runsOf) 20 = .ok (.iaload, 1) := by decide +kernel
theorem d_Ju_runsOf_21 : decode (yB Y_Ju_runsOf) 21 = .ok (.imul, 1) := by decide +kernel
theorem d_Ju_runsOf_22 : decode (yB Y_Ju_runsOf) 22 = .ok (.istore 5, 2) := by decide +kernel
theorem d_Ju_runsOf_24 : decode (yB Y_Ju_runsOf) 24 = .ok (.aload_n 1, 1) := by decide +kernel
theorem d_Ju_runsOf_25 : decode (yB Y_Ju_runsOf) 25 = .ok (.invokevirtual 30, 3) := by decide +kernel
theorem d_Ju_runsOf_28 : decode (yB Y_Ju_runsOf) 28 = .ok (.astore 6, 2) := by decide +kernel
theorem d_Ju_runsOf_30 : decode (yB Y_Ju_runsOf) 30 = .ok (.aload 6, 2) := by decide +kernel
theorem d_Ju_runsOf_32 : decode (yB Y_Ju_runsOf) 32 = .ok (.ifnonnull 6, 3) := by decide +kernel
theorem d_Ju_runsOf_35 : decode (yB Y_Ju_runsOf) 35 = .ok (.iload 5, 2) := by decide +kernel
theorem d_Ju_runsOf_37 : decode (yB Y_Ju_runsOf) 37 = .ok (.ireturn, 1) := by decide +kernel
theorem d_Ju_runsOf_38 : decode (yB Y_Ju_runsOf) 38 = .ok (.aload_n 0, 1) := by decide +kernel
theorem d_Ju_runsOf_39 : decode (yB Y_Ju_runsOf) 39 = .ok (.getfield 18, 3) := by decide +kernel
theorem d_Ju_runsOf_42 : decode (yB Y_Ju_runsOf) 42 = .ok (.iconst 0, 1) := by decide +kernel
theorem d_Ju_runsOf_43 : decode (yB Y_Ju_runsOf) 43 = .ok (.iload_n 2, 1) := by decide +kernel
theorem d_Ju_runsOf_44 : decode (yB Y_Ju_runsOf) 44 = .ok (.iastore, 1) := by decide +kernel
theorem d_Ju_runsOf_45 : decode (yB Y_Ju_runsOf) 45 = .ok (.aload_n 0, 1) := by decide +kernel
theorem d_Ju_runsOf_46 : decode (yB Y_Ju_runsOf) 46 = .ok (.getfield 18, 3) := by decide +kernel
theorem d_Ju_runsOf_49 : decode (yB Y_Ju_runsOf) 49 = .ok (.iconst 1, 1) := by decide +kernel
theorem d_Ju_runsOf_50 : decode (yB Y_Ju_runsOf) 50 = .ok (.iload_n 3, 1) := by decide +kernel
theorem d_Ju_runsOf_51 : decode (yB Y_Ju_runsOf) 51 = .ok (.iastore, 1) := by decide +kernel
theorem d_Ju_runsOf_52 : decode (yB Y_Ju_runsOf) 52 = .ok (.aload_n 0, 1) := by decide +kernel
theorem d_Ju_runsOf_53 : decode (yB Y_Ju_runsOf) 53 = .ok (.getfield 18, 3) := by decide +kernel
theorem d_Ju_runsOf_56 : decode (yB Y_Ju_runsOf) 56 = .ok (.iconst 2, 1) := by decide +kernel
theorem d_Ju_runsOf_57 : decode (yB Y_Ju_runsOf) 57 = .ok (.iload 4, 2) := by decide +kernel
theorem d_Ju_runsOf_59 : decode (yB Y_Ju_runsOf) 59 = .ok (.iastore, 1) := by decide +kernel
theorem d_Ju_runsOf_60 : decode (yB Y_Ju_runsOf) 60 = .ok (.aload_n 0, 1) := by decide +kernel
theorem d_Ju_runsOf_61 : decode (yB Y_Ju_runsOf) 61 = .ok (.getfield 18, 3) := by decide +kernel
theorem d_Ju_runsOf_64 : decode (yB Y_Ju_runsOf) 64 = .ok (.iconst 3, 1) := by decide +kernel
theorem d_Ju_runsOf_65 : decode (yB Y_Ju_runsOf) 65 = .ok (.aload_n 1, 1) := by decide +kernel
theorem d_Ju_runsOf_66 : decode (yB Y_Ju_runsOf) 66 = .ok (.iload_n 2, 1) := by decide +kernel
theorem d_Ju_runsOf_67 : decode (yB Y_Ju_runsOf) 67 = .ok (.iload_n 3, 1) := by decide +kernel
theorem d_Ju_runsOf_68 : decode (yB Y_Ju_runsOf) 68 = .ok (.invokevirtual 34, 3) := by decide +kernel
theorem d_Ju_runsOf_71 : decode (yB Y_Ju_runsOf) 71 = .ok (.iastore, 1) := by decide +kernel
theorem d_Ju_runsOf_72 : decode (yB Y_Ju_runsOf) 72 = .ok (.aload_n 0, 1) := by decide +kernel
theorem d_Ju_runsOf_73 : decode (yB Y_Ju_runsOf) 73 = .ok (.getfield 18, 3) := by decide +kernel
theorem d_Ju_runsOf_76 : decode (yB Y_Ju_runsOf) 76 = .ok (.iconst 4, 1) := by decide +kernel
theorem d_Ju_runsOf_77 : decode (yB Y_Ju_runsOf) 77 = .ok (.iconst (-1), 1) := by decide +kernel
theorem d_Ju_runsOf_78 : decode (yB Y_Ju_runsOf) 78 = .ok (.iastore, 1) := by decide +kernel
theorem d_Ju_runsOf_79 : decode (yB Y_Ju_runsOf) 79 = .ok (.aload_n 0, 1) := by decide +kernel
theorem d_Ju_runsOf_80 : decode (yB Y_Ju_runsOf) 80 = .ok (.getfield 18, 3) := by decide +kernel
theorem d_Ju_runsOf_83 : decode (yB Y_Ju_runsOf) 83 = .ok (.iconst 5, 1) := by decide +kernel
theorem d_Ju_runsOf_84 : decode (yB Y_Ju_runsOf) 84 = .ok (.iconst (-1), 1) := by decide +kernel
theorem d_Ju_runsOf_85 : decode (yB Y_Ju_runsOf) 85 = .ok (.iastore, 1) := by decide +kernel
theorem d_Ju_runsOf_86 : decode (yB Y_Ju_runsOf) 86 = .ok (.aload_n 0, 1) := by decide +kernel
theorem d_Ju_runsOf_87 : decode (yB Y_Ju_runsOf) 87 = .ok (.aload_n 1, 1) := by decide +kernel
theorem d_Ju_runsOf_88 : decode (yB Y_Ju_runsOf) 88 = .ok (.aload 6, 2) := by decide +kernel
theorem d_Ju_runsOf_90 : decode (yB Y_Ju_runsOf) 90 = .ok (.iconst 0, 1) := by decide +kernel
theorem d_Ju_runsOf_91 : decode (yB Y_Ju_runsOf) 91 = .ok (.iload 5, 2) := by decide +kernel
theorem d_Ju_runsOf_93 : decode (yB Y_Ju_runsOf) 93 = .ok (.bipush 99, 2) := by decide +kernel
theorem d_Ju_runsOf_95 : decode (yB Y_Ju_runsOf) 95 = .ok (.invokevirtual 38, 3) := by decide +kernel
theorem d_Ju_runsOf_98 : decode (yB Y_Ju_runsOf) 98 = .ok (.ireturn, 1) := by decide +kernel
def F_Ju_runsOf (n : Nat) (E : zE) (S : zS) (a0 : Nat) (a1 : Nat) (x2 : Int32) (x3 : Int32) (M : zH) : Option (Int32 × zH) :=
  (zgR S a1 3 0).bind fun b_1 =>
  (zldI S M b_1 ((x2 * 8) + x3)).bind fun v_2 =>
  (zgR S a1 3 9).bind fun b_3 =>
  (zldI S M b_3 1).bind fun v_4 =>
  (F_Ni_lawInForce n E S a1 M).bind fun q_5 =>
  match q_5.1 with
  | none =>
    some (v_2 * v_4, q_5.2)
  | some g_7 =>
    (zgR S a0 1 1).bind fun b_8 =>
    (zstI S q_5.2 b_8 0 x2).bind fun m_9 =>
    (zstI S m_9 b_8 1 x3).bind fun m_10 =>
    (zstI S m_10 b_8 2 v_2).bind fun m_11 =>
    (F_Ni_fieldBelow n E S a1 x2 x3 m_11).bind fun q_12 =>
    (zstI S q_12.2 b_8 3 q_12.1).bind fun m_13 =>
    (zstI S m_13 b_8 4 (-1)).bind fun m_14 =>
    (zstI S m_14 b_8 5 (-1)).bind fun m_15 =>
    (F_Ju_told n E S a0 a1 g_7 0 (v_2 * v_4) 99 m_15).bind fun q_16 =>
    some (q_16.1, q_16.2)
theorem K_Ju_runsOf (n : Nat) (E : zE) (S : zS) (a0 : Nat) (a1 : Nat) (x2 : Int32) (x3 : Int32) (M : zH) (r : Int32) (M' : zH)  (h : F_Ju_runsOf n E S a0 a1 x2 x3 M = some (r, M')) : zG E Y_Ju_runsOf (some (.int r), S, M') 0 [(0, .ref a0), (1, .ref a1), (2, .int x2), (3, .int x3)] [] S M 0 0 := by
  unfold F_Ju_runsOf at h
  refine zi_aload_n 1 d_Ju_runsOf_0 rfl ?_
  obtain ⟨b_1, eb_1, h⟩ := zbind h
  refine zo_getR 4 zkd_3 0 d_Ju_runsOf_1 eb_1 rfl tw_42 rfl ?_
  refine zi_iload_n 2 d_Ju_runsOf_4 rfl ?_
  refine zi_bipush 8 d_Ju_runsOf_5 rfl ?_
  refine zi_imul d_Ju_runsOf_7 ?_
  refine zi_iload_n 3 d_Ju_runsOf_8 rfl ?_
  refine zi_iadd d_Ju_runsOf_9 ?_
  obtain ⟨v_2, ev_2, h⟩ := zbind h
  refine zo_iald 11 d_Ju_runsOf_10 ev_2 rfl ?_
  refine zi_istore [(4, .int v_2), (0, .ref a0), (1, .ref a1), (2, .int x2), (3, .int x3)] d_Ju_runsOf_11 (by decide) rfl ?_
  refine zi_iload 0 d_Ju_runsOf_13 rfl ?_
  refine zi_aload_n 2 d_Ju_runsOf_15 rfl ?_
  obtain ⟨b_3, eb_3, h⟩ := zbind h
  refine zo_getR 19 zkd_3 9 d_Ju_runsOf_16 eb_3 rfl tw_81 rfl ?_
  refine zi_iconst 1 d_Ju_runsOf_19 rfl ?_
  obtain ⟨v_4, ev_4, h⟩ := zbind h
  refine zo_iald 21 d_Ju_runsOf_20 ev_4 rfl ?_
  refine zi_imul d_Ju_runsOf_21 ?_
  refine zi_istore [(5, .int (v_2 * v_4)), (4, .int v_2), (0, .ref a0), (1, .ref a1), (2, .int x2), (3, .int x3)] d_Ju_runsOf_22 (by decide) rfl ?_
  refine zi_aload_n 3 d_Ju_runsOf_24 rfl ?_
  obtain ⟨q_5, eq_5, h⟩ := zbind h
  refine zo_virt (k' := 0) (n' := 0) 28 [] [] [va_rf q_5.1] zkd_3 (zgR_s eb_1).1 (C_Ni_lawInForce n E S a1 M q_5.1 q_5.2 eq_5) d_Ju_runsOf_25 tw_417 tw_414 tw_415 tw_416 tw_2 dd_Ni_lawInForce ⟨Nat.le_of_ble_eq_true rfl, Nat.le_of_ble_eq_true rfl, Nat.le_of_ble_eq_true rfl, Nat.le_of_ble_eq_true rfl⟩ (Nat.le_of_ble_eq_true rfl) rfl rfl rfl rfl ?_
  obtain ⟨w_6, hw_6⟩ : ∃ w, w = q_5.1 := ⟨_, rfl⟩
  rw [← hw_6] at h ⊢
  cases w_6 with
  | none =>
    dsimp only at h
    dsimp only [va_rf]
    refine zi_astoreN [(6, .null), (5, .int (v_2 * v_4)), (4, .int v_2), (0, .ref a0), (1, .ref a1), (2, .int x2), (3, .int x3)] d_Ju_runsOf_28 (by decide) rfl ?_
    refine zi_aloadN 0 d_Ju_runsOf_30 rfl ?_
    refine zi_nonnullN d_Ju_runsOf_32 ?_
    refine zi_iload 1 d_Ju_runsOf_35 rfl ?_
    cases h
    exact zo_ret d_Ju_runsOf_37 (Nat.le_of_ble_eq_true rfl) (Nat.le_of_ble_eq_true rfl) rfl
  | some g_7 =>
    dsimp only at h
    dsimp only [va_rf]
    refine zi_astore [(6, .ref g_7), (5, .int (v_2 * v_4)), (4, .int v_2), (0, .ref a0), (1, .ref a1), (2, .int x2), (3, .int x3)] d_Ju_runsOf_28 (by decide) rfl ?_
    refine zi_aload 0 d_Ju_runsOf_30 rfl ?_
    refine zi_nonnull (tgt := 38) d_Ju_runsOf_32 rfl ?_
    refine zi_aload_n 3 d_Ju_runsOf_38 rfl ?_
    obtain ⟨b_8, eb_8, h⟩ := zbind h
    refine zo_getR 42 zkd_1 1 d_Ju_runsOf_39 eb_8 rfl tw_246 rfl ?_
    refine zi_iconst 0 d_Ju_runsOf_42 rfl ?_
    refine zi_iload_n 5 d_Ju_runsOf_43 rfl ?_
    obtain ⟨m_9, em_9, h⟩ := zbind h
    refine zo_iast 45 d_Ju_runsOf_44 em_9 rfl ?_
    refine zi_aload_n 3 d_Ju_runsOf_45 rfl ?_
    refine zo_getR 49 zkd_1 1 d_Ju_runsOf_46 eb_8 rfl tw_246 rfl ?_
    refine zi_iconst 1 d_Ju_runsOf_49 rfl ?_
    refine zi_iload_n 6 d_Ju_runsOf_50 rfl ?_
    obtain ⟨m_10, em_10, h⟩ := zbind h
    refine zo_iast 52 d_Ju_runsOf_51 em_10 rfl ?_
    refine zi_aload_n 3 d_Ju_runsOf_52 rfl ?_
    refine zo_getR 56 zkd_1 1 d_Ju_runsOf_53 eb_8 rfl tw_246 rfl ?_
    refine zi_iconst 2 d_Ju_runsOf_56 rfl ?_
    refine zi_iload 2 d_Ju_runsOf_57 rfl ?_
    obtain ⟨m_11, em_11, h⟩ := zbind h
    refine zo_iast 60 d_Ju_runsOf_59 em_11 rfl ?_
    refine zi_aload_n 3 d_Ju_runsOf_60 rfl ?_
    refine zo_getR 64 zkd_1 1 d_Ju_runsOf_61 eb_8 rfl tw_246 rfl ?_
    refine zi_iconst 3 d_Ju_runsOf_64 rfl ?_
    refine zi_aload_n 4 d_Ju_runsOf_65 rfl ?_
    refine zi_iload_n 5 d_Ju_runsOf_66 rfl ?_
    refine zi_iload_n 6 d_Ju_runsOf_67 rfl ?_
    obtain ⟨q_12, eq_12, h⟩ := zbind h
    refine zo_virt (k' := 0) (n' := 0) 71 [.int x2, .int x3] [.int 3, .ref b_8] [.int q_12.1, .int 3, .ref b_8] zkd_3 (zgR_s eb_1).1 (C_Ni_fieldBelow n E S a1 x2 x3 m_11 q_12.1 q_12.2 eq_12) d_Ju_runsOf_68 tw_406 tw_418 tw_404 tw_405 tw_2 dd_Ni_fieldBelow ⟨Nat.le_of_ble_eq_true rfl, Nat.le_of_ble_eq_true rfl, Nat.le_of_ble_eq_true rfl, Nat.le_of_ble_eq_true rfl⟩ (Nat.le_of_ble_eq_true rfl) rfl rfl rfl rfl ?_
    obtain ⟨m_13, em_13, h⟩ := zbind h
    refine zo_iast 72 d_Ju_runsOf_71 em_13 rfl ?_
    refine zi_aload_n 3 d_Ju_runsOf_72 rfl ?_
    refine zo_getR 76 zkd_1 1 d_Ju_runsOf_73 eb_8 rfl tw_246 rfl ?_
    refine zi_iconst 4 d_Ju_runsOf_76 rfl ?_
    refine zi_iconst (-1) d_Ju_runsOf_77 rfl ?_
    obtain ⟨m_14, em_14, h⟩ := zbind h
    refine zo_iast 79 d_Ju_runsOf_78 em_14 rfl ?_
    refine zi_aload_n 3 d_Ju_runsOf_79 rfl ?_
    refine zo_getR 83 zkd_1 1 d_Ju_runsOf_80 eb_8 rfl tw_246 rfl ?_
    refine zi_iconst 5 d_Ju_runsOf_83 rfl ?_
    refine zi_iconst (-1) d_Ju_runsOf_84 rfl ?_
    obtain ⟨m_15, em_15, h⟩ := zbind h
    refine zo_iast 86 d_Ju_runsOf_85 em_15 rfl ?_
    refine zi_aload_n 3 d_Ju_runsOf_86 rfl ?_
    refine zi_aload_n 4 d_Ju_runsOf_87 rfl ?_
    refine zi_aload 0 d_Ju_runsOf_88 rfl ?_
    refine zi_iconst 0 d_Ju_runsOf_90 rfl ?_
    refine zi_iload 1 d_Ju_runsOf_91 rfl ?_
    refine zi_bipush 99 d_Ju_runsOf_93 rfl ?_
    obtain ⟨q_16, eq_16, h⟩ := zbind h
    refine zo_virt (k' := 0) (n' := 0) 98 [.ref a1, .ref g_7, .int 0, .int (v_2 * v_4), .int 99] [] [.int q_16.1] zkd_1 (zgR_s eb_8).1 (C_Ju_told n E S a0 a1 g_7 0 (v_2 * v_4) 99 m_15 q_16.1 q_16.2 eq_16) d_Ju_runsOf_95 tw_422 tw_419 tw_421 ts_0 tw_8 dd_Ju_told ⟨Nat.le_of_ble_eq_true rfl, Nat.le_of_ble_eq_true rfl, Nat.le_of_ble_eq_true rfl, Nat.le_of_ble_eq_true rfl⟩ (Nat.le_of_ble_eq_true rfl) rfl rfl rfl rfl ?_
    cases h
    exact zo_ret d_Ju_runsOf_98 (Nat.le_of_ble_eq_true rfl) (Nat.le_of_ble_eq_true rfl) rfl
theorem C_Ju_runsOf (n : Nat) (E : zE) (S : zS) (a0 : Nat) (a1 : Nat) (x2 : Int32) (x3 : Int32) (M : zH) (r : Int32) (M' : zH) (h : F_Ju_runsOf n E S a0 a1 x2 x3 M = some (r, M')) : zC E Y_Ju_runsOf [.ref a0, .ref a1, .int x2, .int x3] S M (some (.int r), S, M') :=
  zC.of (Or.inl (show plainName "NightColander$Judge" = true by decide)) (Nat.le_of_ble_eq_true rfl) (trivial) (K_Ju_runsOf n E S a0 a1 x2 x3 M r M' h)
theorem d_NC_hole_0 : decode (yB Y_NC_hole) 0 = .ok (.iload_n 1, 1) := by decide +kernel
theorem d_NC_hole_1 : decode (yB Y_NC_hole) 1 = .ok (.invokestatic 111, 3) := by decide +kernel
theorem d_NC_hole_4 : decode (yB Y_NC_hole) 4 = .ok (.ifCond .eq 10, 3) := by decide +kernel
theorem d_NC_hole_7 : decode (yB Y_NC_hole) 7 = .ok (.iload_n 2, 1) := by decide +kernel
theorem d_NC_hole_8 : decode (yB Y_NC_hole) 8 = .ok (.invokestatic 115, 3) := by decide +kernel
theorem d_NC_hole_11 : decode (yB Y_NC_hole) 11 = .ok (.ifCond .ne 5, 3) := by decide +kernel
theorem d_NC_hole_14 : decode (yB Y_NC_hole) 14 = .ok (.iconst (-1), 1) := by decide +kernel
theorem d_NC_hole_15 : decode (yB Y_NC_hole) 15 = .ok (.ireturn, 1) := by decide +kernel
theorem d_NC_hole_16 : decode (yB Y_NC_hole) 16 = .ok (.iload_n 3, 1) := by decide +kernel
theorem d_NC_hole_17 : decode (yB Y_NC_hole) 17 = .ok (.tableswitch 114 0 3 #[31, 46, 69, 79], 31) := by decide +kernel
theorem d_NC_hole_48 : decode (yB Y_NC_hole) 48 = .ok (.aload_n 0, 1) := by decide +kernel
theorem d_NC_hole_49 : decode (yB Y_NC_hole) 49 = .ok (.getfield 12, 3) := by decide +kernel
theorem d_NC_hole_52 : decode (yB Y_NC_hole) 52 = .ok (.getfield 118, 3) := by decide +kernel
theorem d_NC_hole_55 : decode (yB Y_NC_hole) 55 = .ok (.iload_n 1, 1) := by decide +kernel
theorem d_NC_hole_56 : decode (yB Y_NC_hole) 56 = .ok (.bipush 8, 2) := by decide +kernel
theorem d_NC_hole_58 : decode (yB Y_NC_hole) 58 = .ok (.imul, 1) := by decide +kernel
theorem d_NC_hole_59 : decode (yB Y_NC_hole) 59 = .ok (.iload_n 2, 1) := by decide +kernel
theorem d_NC_hole_60 : decode (yB Y_NC_hole) 60 = .ok (.iadd, 1) := by decide +kernel
theorem d_NC_hole_61 : decode (yB Y_NC_hole) 61 = .ok (.iaload, 1) := by decide +kernel
theorem d_NC_hole_62 : decode (yB Y_NC_hole) 62 = .ok (.ireturn, 1) := by decide +kernel
theorem d_NC_hole_63 : decode (yB Y_NC_hole) 63 = .ok (.aload_n 0, 1) := by decide +kernel
theorem d_NC_hole_64 : decode (yB Y_NC_hole) 64 = .ok (.getfield 12, 3) := by decide +kernel
theorem d_NC_hole_67 : decode (yB Y_NC_hole) 67 = .ok (.getfield 121, 3) := by decide +kernel
theorem d_NC_hole_70 : decode (yB Y_NC_hole) 70 = .ok (.iload_n 1, 1) := by decide +kernel
theorem d_NC_hole_71 : decode (yB Y_NC_hole) 71 = .ok (.bipush 8, 2) := by decide +kernel
theorem d_NC_hole_73 : decode (yB Y_NC_hole) 73 = .ok (.imul, 1) := by decide +kernel
theorem d_NC_hole_74 : decode (yB Y_NC_hole) 74 = .ok (.iload_n 2, 1) := by decide +kernel
theorem d_NC_hole_75 : decode (yB Y_NC_hole) 75 = .ok (.iadd, 1) := by decide +kernel
theorem d_NC_hole_76 : decode (yB Y_NC_hole) 76 = .ok (.baload, 1) := by decide +kernel
theorem d_NC_hole_77 : decode (yB Y_NC_hole) 77 = .ok (.ifCond .eq 7, 3) := by decide +kernel
theorem d_NC_hole_80 : decode (yB Y_NC_hole) 80 = .ok (.iconst 1, 1) := by decide +kernel
theorem d_NC_hole_81 : decode (yB Y_NC_hole) 81 = .ok (.goto 4, 3) := by decide +kernel
theorem d_NC_hole_84 : decode (yB Y_NC_hole) 84 = .ok (.iconst 0, 1) := by decide +kernel
theorem d_NC_hole_85 : decode (yB Y_NC_hole) 85 = .ok (.ireturn, 1) := by decide +kernel
theorem d_NC_hole_86 : decode (yB Y_NC_hole) 86 = .ok (.aload_n 0, 1) := by decide +kernel
theorem d_NC_hole_87 : decode (yB Y_NC_hole) 87 = .ok (.getfield 12, 3) := by decide +kernel
theorem d_NC_hole_90 : decode (yB Y_NC_hole) 90 = .ok (.iload_n 1, 1) := by decide +kernel
theorem d_NC_hole_91 : decode (yB Y_NC_hole) 91 = .ok (.iload_n 2, 1) := by decide +kernel
theorem d_NC_hole_92 : decode (yB Y_NC_hole) 92 = .ok (.invokevirtual 124, 3) := by decide +kernel
theorem d_NC_hole_95 : decode (yB Y_NC_hole) 95 = .ok (.ireturn, 1) := by decide +kernel
theorem d_NC_hole_96 : decode (yB Y_NC_hole) 96 = .ok (.aload_n 0, 1) := by decide +kernel
theorem d_NC_hole_97 : decode (yB Y_NC_hole) 97 = .ok (.getfield 12, 3) := by decide +kernel
theorem d_NC_hole_100 : decode (yB Y_NC_hole) 100 = .ok (.getfield 121, 3) := by decide +kernel
theorem d_NC_hole_103 : decode (yB Y_NC_hole) 103 = .ok (.iload_n 1, 1) := by decide +kernel
theorem d_NC_hole_104 : decode (yB Y_NC_hole) 104 = .ok (.bipush 8, 2) := by decide +kernel
theorem d_NC_hole_106 : decode (yB Y_NC_hole) 106 = .ok (.imul, 1) := by decide +kernel
theorem d_NC_hole_107 : decode (yB Y_NC_hole) 107 = .ok (.iload_n 2, 1) := by decide +kernel
theorem d_NC_hole_108 : decode (yB Y_NC_hole) 108 = .ok (.iadd, 1) := by decide +kernel
theorem d_NC_hole_109 : decode (yB Y_NC_hole) 109 = .ok (.baload, 1) := by decide +kernel
theorem d_NC_hole_110 : decode (yB Y_NC_hole) 110 = .ok (.ifCond .eq 7, 3) := by decide +kernel
theorem d_NC_hole_113 : decode (yB Y_NC_hole) 113 = .ok (.iconst 0, 1) := by decide +kernel
theorem d_NC_hole_114 : decode (yB Y_NC_hole) 114 = .ok (.goto 16, 3) := by decide +kernel
theorem d_NC_hole_117 : decode (yB Y_NC_hole) 117 = .ok (.aload_n 0, 1) := by decide +kernel
theorem d_NC_hole_118 : decode (yB Y_NC_hole) 118 = .ok (.getfield 61, 3) := by decide +kernel
theorem d_NC_hole_121 : decode (yB Y_NC_hole) 121 = .ok (.aload_n 0, 1) := by decide +kernel
theorem d_NC_hole_122 : decode (yB Y_NC_hole) 122 = .ok (.getfield 12, 3) := by decide +kernel
theorem d_NC_hole_125 : decode (yB Y_NC_hole) 125 = .ok (.iload_n 1, 1) := by decide +kernel
theorem d_NC_hole_126 : decode (yB Y_NC_hole) 126 = .ok (.iload_n 2, 1) := by decide +kernel
theorem d_NC_hole_127 : decode (yB Y_NC_hole) 127 = .ok (.invokevirtual 128, 3) := by decide +kernel
theorem d_NC_hole_130 : decode (yB Y_NC_hole) 130 = .ok (.ireturn, 1) := by decide +kernel
theorem d_NC_hole_131 : decode (yB Y_NC_hole) 131 = .ok (.iconst (-1), 1) := by decide +kernel
theorem d_NC_hole_132 : decode (yB Y_NC_hole) 132 = .ok (.ireturn, 1) := by decide +kernel
def F_NC_hole (n : Nat) (E : zE) (S : zS) (a0 : Nat) (x1 : Int32) (x2 : Int32) (x3 : Int32) (M : zH) : Option (Int32 × zH) :=
  (F_NC_isRing n E S x1 M).bind fun q_1 =>
  if q_1.1 = true then
    (F_NC_isHole n E S x2 q_1.2).bind fun q_3 =>
    if q_3.1 = true then
      if x3 = 0 then
        (zgR S a0 10 0).bind fun b_6 =>
        (zgR S b_6 3 0).bind fun b_7 =>
        (zldI S q_3.2 b_7 ((x1 * 8) + x2)).bind fun v_8 =>
        some (v_8, q_3.2)
      else
      if x3 = 1 then
        (zgR S a0 10 0).bind fun b_10 =>
        (zgR S b_10 3 1).bind fun b_11 =>
        (zldZ S q_3.2 b_11 ((x1 * 8) + x2)).bind fun v_12 =>
        if v_12 = 0 then
          some (0, q_3.2)
        else
          some (1, q_3.2)
      else
      if x3 = 2 then
        (zgR S a0 10 0).bind fun b_15 =>
        (zck S b_15 3).bind fun u_16 =>
        (F_Ni_fieldBelow n E S b_15 x1 x2 q_3.2).bind fun q_17 =>
        some (q_17.1, q_17.2)
      else
      if x3 = 3 then
        (zgR S a0 10 0).bind fun b_19 =>
        (zgR S b_19 3 1).bind fun b_20 =>
        (zldZ S q_3.2 b_20 ((x1 * 8) + x2)).bind fun v_21 =>
        if v_21 = 0 then
          (zgR S a0 10 9).bind fun b_23 =>
          (zck S b_23 1).bind fun u_24 =>
          (F_Ju_runsOf n E S b_23 b_19 x1 x2 q_3.2).bind fun q_25 =>
          some (q_25.1, q_25.2)
        else
          some (0, q_3.2)
      else
        some ((-1), q_3.2)
    else
      some ((-1), q_3.2)
  else
    some ((-1), q_1.2)
theorem K_NC_hole (n : Nat) (E : zE) (S : zS) (a0 : Nat) (x1 : Int32) (x2 : Int32) (x3 : Int32) (M : zH) (r : Int32) (M' : zH)  (h : F_NC_hole n E S a0 x1 x2 x3 M = some (r, M')) : zG E Y_NC_hole (some (.int r), S, M') 0 [(0, .ref a0), (1, .int x1), (2, .int x2), (3, .int x3)] [] S M 0 0 := by
  unfold F_NC_hole at h
  refine zi_iload_n 1 d_NC_hole_0 rfl ?_
  obtain ⟨q_1, eq_1, h⟩ := zbind h
  refine zo_stat (k' := 0) (n' := 0) 4 [.int x1] [] [.int (bI q_1.1)] (C_NC_isRing n E S x1 M q_1.1 q_1.2 eq_1) d_NC_hole_1 tw_396 tw_394 tw_395 tw_1 dd_NC_isRing ⟨Nat.le_of_ble_eq_true rfl, Nat.le_of_ble_eq_true rfl, Nat.le_of_ble_eq_true rfl, Nat.le_of_ble_eq_true rfl⟩ (Nat.le_of_ble_eq_true rfl) rfl rfl rfl rfl ?_
  refine zo_ifeqB d_NC_hole_4 rfl 7 rfl (fun c_2 => ?_) (fun c_2 => ?_)
  · rw [if_neg c_2] at h
    refine zi_iconst (-1) d_NC_hole_14 rfl ?_
    cases h
    exact zo_ret d_NC_hole_15 (Nat.le_of_ble_eq_true rfl) (Nat.le_of_ble_eq_true rfl) rfl
  · rw [if_pos c_2] at h
    refine zi_iload_n 2 d_NC_hole_7 rfl ?_
    obtain ⟨q_3, eq_3, h⟩ := zbind h
    refine zo_stat (k' := 0) (n' := 0) 11 [.int x2] [] [.int (bI q_3.1)] (C_NC_isHole n E S x2 q_1.2 q_3.1 q_3.2 eq_3) d_NC_hole_8 tw_402 tw_400 tw_401 tw_1 dd_NC_isHole ⟨Nat.le_of_ble_eq_true rfl, Nat.le_of_ble_eq_true rfl, Nat.le_of_ble_eq_true rfl, Nat.le_of_ble_eq_true rfl⟩ (Nat.le_of_ble_eq_true rfl) rfl rfl rfl rfl ?_
    refine zo_ifneB d_NC_hole_11 rfl 14 rfl (fun c_4 => ?_) (fun c_4 => ?_)
    · rw [if_pos c_4] at h
      refine zi_iload_n 3 d_NC_hole_16 rfl ?_
      by_cases c_5 : x3 = 0
      · rw [if_pos c_5] at h
        refine zo_tab (tgt := 48) 0 d_NC_hole_17 c_5 (by decide) (by decide) rfl rfl ?_
        refine zi_aload_n 0 d_NC_hole_48 rfl ?_
        obtain ⟨b_6, eb_6, h⟩ := zbind h
        refine zo_getR 52 zkd_10 0 d_NC_hole_49 eb_6 rfl tw_332 rfl ?_
        obtain ⟨b_7, eb_7, h⟩ := zbind h
        refine zo_getR 55 zkd_3 0 d_NC_hole_52 eb_7 rfl tw_43 rfl ?_
        refine zi_iload_n 1 d_NC_hole_55 rfl ?_
        refine zi_bipush 8 d_NC_hole_56 rfl ?_
        refine zi_imul d_NC_hole_58 ?_
        refine zi_iload_n 2 d_NC_hole_59 rfl ?_
        refine zi_iadd d_NC_hole_60 ?_
        obtain ⟨v_8, ev_8, h⟩ := zbind h
        refine zo_iald 62 d_NC_hole_61 ev_8 rfl ?_
        cases h
        exact zo_ret d_NC_hole_62 (Nat.le_of_ble_eq_true rfl) (Nat.le_of_ble_eq_true rfl) rfl
      rw [if_neg c_5] at h
      by_cases c_9 : x3 = 1
      · rw [if_pos c_9] at h
        refine zo_tab (tgt := 63) 1 d_NC_hole_17 c_9 (by decide) (by decide) rfl rfl ?_
        refine zi_aload_n 0 d_NC_hole_63 rfl ?_
        obtain ⟨b_10, eb_10, h⟩ := zbind h
        refine zo_getR 67 zkd_10 0 d_NC_hole_64 eb_10 rfl tw_332 rfl ?_
        obtain ⟨b_11, eb_11, h⟩ := zbind h
        refine zo_getR 70 zkd_3 1 d_NC_hole_67 eb_11 rfl tw_47 rfl ?_
        refine zi_iload_n 1 d_NC_hole_70 rfl ?_
        refine zi_bipush 8 d_NC_hole_71 rfl ?_
        refine zi_imul d_NC_hole_73 ?_
        refine zi_iload_n 2 d_NC_hole_74 rfl ?_
        refine zi_iadd d_NC_hole_75 ?_
        obtain ⟨v_12, ev_12, h⟩ := zbind h
        refine zo_zald 77 d_NC_hole_76 ev_12 rfl ?_
        refine zi_if_eq (tgt := 84) d_NC_hole_77 rfl (fun c_13 => ?_) (fun c_13 => ?_)
        · rw [if_pos c_13] at h
          refine zi_iconst 0 d_NC_hole_84 rfl ?_
          cases h
          exact zo_ret d_NC_hole_85 (Nat.le_of_ble_eq_true rfl) (Nat.le_of_ble_eq_true rfl) rfl
        · rw [if_neg c_13] at h
          refine zi_iconst 1 d_NC_hole_80 rfl ?_
          refine zi_goto (tgt := 85) d_NC_hole_81 rfl ?_
          cases h
          exact zo_ret d_NC_hole_85 (Nat.le_of_ble_eq_true rfl) (Nat.le_of_ble_eq_true rfl) rfl
      rw [if_neg c_9] at h
      by_cases c_14 : x3 = 2
      · rw [if_pos c_14] at h
        refine zo_tab (tgt := 86) 2 d_NC_hole_17 c_14 (by decide) (by decide) rfl rfl ?_
        refine zi_aload_n 0 d_NC_hole_86 rfl ?_
        obtain ⟨b_15, eb_15, h⟩ := zbind h
        refine zo_getR 90 zkd_10 0 d_NC_hole_87 eb_15 rfl tw_332 rfl ?_
        refine zi_iload_n 1 d_NC_hole_90 rfl ?_
        refine zi_iload_n 2 d_NC_hole_91 rfl ?_
        obtain ⟨u_16, eu_16, h⟩ := zbind h
        obtain ⟨q_17, eq_17, h⟩ := zbind h
        refine zo_virt (k' := 0) (n' := 0) 95 [.int x1, .int x2] [] [.int q_17.1] zkd_3 (zck_s eu_16) (C_Ni_fieldBelow n E S b_15 x1 x2 q_3.2 q_17.1 q_17.2 eq_17) d_NC_hole_92 tw_406 tw_403 tw_404 tw_405 tw_2 dd_Ni_fieldBelow ⟨Nat.le_of_ble_eq_true rfl, Nat.le_of_ble_eq_true rfl, Nat.le_of_ble_eq_true rfl, Nat.le_of_ble_eq_true rfl⟩ (Nat.le_of_ble_eq_true rfl) rfl rfl rfl rfl ?_
        cases h
        exact zo_ret d_NC_hole_95 (Nat.le_of_ble_eq_true rfl) (Nat.le_of_ble_eq_true rfl) rfl
      rw [if_neg c_14] at h
      by_cases c_18 : x3 = 3
      · rw [if_pos c_18] at h
        refine zo_tab (tgt := 96) 3 d_NC_hole_17 c_18 (by decide) (by decide) rfl rfl ?_
        refine zi_aload_n 0 d_NC_hole_96 rfl ?_
        obtain ⟨b_19, eb_19, h⟩ := zbind h
        refine zo_getR 100 zkd_10 0 d_NC_hole_97 eb_19 rfl tw_332 rfl ?_
        obtain ⟨b_20, eb_20, h⟩ := zbind h
        refine zo_getR 103 zkd_3 1 d_NC_hole_100 eb_20 rfl tw_47 rfl ?_
        refine zi_iload_n 1 d_NC_hole_103 rfl ?_
        refine zi_bipush 8 d_NC_hole_104 rfl ?_
        refine zi_imul d_NC_hole_106 ?_
        refine zi_iload_n 2 d_NC_hole_107 rfl ?_
        refine zi_iadd d_NC_hole_108 ?_
        obtain ⟨v_21, ev_21, h⟩ := zbind h
        refine zo_zald 110 d_NC_hole_109 ev_21 rfl ?_
        refine zi_if_eq (tgt := 117) d_NC_hole_110 rfl (fun c_22 => ?_) (fun c_22 => ?_)
        · rw [if_pos c_22] at h
          refine zi_aload_n 0 d_NC_hole_117 rfl ?_
          obtain ⟨b_23, eb_23, h⟩ := zbind h
          refine zo_getR 121 zkd_10 9 d_NC_hole_118 eb_23 rfl tw_341 rfl ?_
          refine zi_aload_n 0 d_NC_hole_121 rfl ?_
          refine zo_getR 125 zkd_10 0 d_NC_hole_122 eb_19 rfl tw_332 rfl ?_
          refine zi_iload_n 1 d_NC_hole_125 rfl ?_
          refine zi_iload_n 2 d_NC_hole_126 rfl ?_
          obtain ⟨u_24, eu_24, h⟩ := zbind h
          obtain ⟨q_25, eq_25, h⟩ := zbind h
          refine zo_virt (k' := 0) (n' := 0) 130 [.ref b_19, .int x1, .int x2] [] [.int q_25.1] zkd_1 (zck_s eu_24) (C_Ju_runsOf n E S b_23 b_19 x1 x2 q_3.2 q_25.1 q_25.2 eq_25) d_NC_hole_127 tw_413 tw_410 tw_411 tw_412 tw_8 dd_Ju_runsOf ⟨Nat.le_of_ble_eq_true rfl, Nat.le_of_ble_eq_true rfl, Nat.le_of_ble_eq_true rfl, Nat.le_of_ble_eq_true rfl⟩ (Nat.le_of_ble_eq_true rfl) rfl rfl rfl rfl ?_
          cases h
          exact zo_ret d_NC_hole_130 (Nat.le_of_ble_eq_true rfl) (Nat.le_of_ble_eq_true rfl) rfl
        · rw [if_neg c_22] at h
          refine zi_iconst 0 d_NC_hole_113 rfl ?_
          refine zi_goto (tgt := 130) d_NC_hole_114 rfl ?_
          cases h
          exact zo_ret d_NC_hole_130 (Nat.le_of_ble_eq_true rfl) (Nat.le_of_ble_eq_true rfl) rfl
      rw [if_neg c_18] at h
      refine zo_tabP (tgt := 131) 0 4 d_NC_hole_17 rfl rfl (fun j hj => by match j, hj with | 0, _ => exact c_5  | 1, _ => exact c_9  | 2, _ => exact c_14  | 3, _ => exact c_18 | j + 4, hj => exact absurd hj (by omega)) rfl ?_
      refine zi_iconst (-1) d_NC_hole_131 rfl ?_
      cases h
      exact zo_ret d_NC_hole_132 (Nat.le_of_ble_eq_true rfl) (Nat.le_of_ble_eq_true rfl) rfl
    · rw [if_neg c_4] at h
      refine zi_iconst (-1) d_NC_hole_14 rfl ?_
      cases h
      exact zo_ret d_NC_hole_15 (Nat.le_of_ble_eq_true rfl) (Nat.le_of_ble_eq_true rfl) rfl
theorem C_NC_hole (n : Nat) (E : zE) (S : zS) (a0 : Nat) (x1 : Int32) (x2 : Int32) (x3 : Int32) (M : zH) (r : Int32) (M' : zH) (h : F_NC_hole n E S a0 x1 x2 x3 M = some (r, M')) : zC E Y_NC_hole [.ref a0, .int x1, .int x2, .int x3] S M (some (.int r), S, M') :=
  zC.of (Or.inl (show plainName "NightColander" = true by decide)) (Nat.le_of_ble_eq_true rfl) (trivial) (K_NC_hole n E S a0 x1 x2 x3 M r M' h)
theorem d_NC_accept_0 : decode (yB Y_NC_accept) 0 = .ok (.aload_n 0, 1) := by decide +kernel
theorem d_NC_accept_1 : decode (yB Y_NC_accept) 1 = .ok (.iconst 0, 1) := by decide +kernel
theorem d_NC_accept_2 : decode (yB Y_NC_accept) 2 = .ok (.putfield 98, 3) := by decide +kernel
theorem d_NC_accept_5 : decode (yB Y_NC_accept) 5 = .ok (.iload_n 1, 1) := by decide +kernel
theorem d_NC_accept_6 : decode (yB Y_NC_accept) 6 = .ok (.ireturn, 1) := by decide +kernel
def F_NC_accept (n : Nat) (E : zE) (S : zS) (a0 : Nat) (x1 : Int32) (M : zH) : Option (Int32 × zH) :=
  (zpI S M a0 10 15 0).bind fun m_1 =>
  some (x1, m_1)
theorem K_NC_accept (n : Nat) (E : zE) (S : zS) (a0 : Nat) (x1 : Int32) (M : zH) (r : Int32) (M' : zH)  (h : F_NC_accept n E S a0 x1 M = some (r, M')) : zG E Y_NC_accept (some (.int r), S, M') 0 [(0, .ref a0), (1, .int x1)] [] S M 0 0 := by
  unfold F_NC_accept at h
  refine zi_aload_n 0 d_NC_accept_0 rfl ?_
  refine zi_iconst 0 d_NC_accept_1 rfl ?_
  obtain ⟨m_1, em_1, h⟩ := zbind h
  refine zo_putI 5 zkd_10 15 d_NC_accept_2 em_1 rfl rfl rfl tw_347 rfl ?_
  refine zi_iload_n 1 d_NC_accept_5 rfl ?_
  cases h
  exact zo_ret d_NC_accept_6 (Nat.le_of_ble_eq_true rfl) (Nat.le_of_ble_eq_true rfl) rfl
theorem C_NC_accept (n : Nat) (E : zE) (S : zS) (a0 : Nat) (x1 : Int32) (M : zH) (r : Int32) (M' : zH) (h : F_NC_accept n E S a0 x1 M = some (r, M')) : zC E Y_NC_accept [.ref a0, .int x1] S M (some (.int r), S, M') :=
  zC.of (Or.inl (show plainName "NightColander" = true by decide)) (Nat.le_of_ble_eq_true rfl) (trivial) (K_NC_accept n E S a0 x1 M r M' h)
theorem d_NC_refuse_0 : decode (yB Y_NC_refuse) 0 = .ok (.aload_n 0, 1) := by decide +kernel
theorem d_NC_refuse_1 : decode (yB Y_NC_refuse) 1 = .ok (.iload_n 1, 1) := by decide +kernel
theorem d_NC_refuse_2 : decode (yB Y_NC_refuse) 2 = .ok (.putfield 98, 3) := by decide +kernel
theorem d_NC_refuse_5 : decode (yB Y_NC_refuse) 5 = .ok (.iload_n 1, 1) := by decide +kernel
theorem d_NC_refuse_6 : decode (yB Y_NC_refuse) 6 = .ok (.bipush (-4), 2) := by decide +kernel
theorem d_NC_refuse_8 : decode (yB Y_NC_refuse) 8 = .ok (.if_icmp .le 9, 3) := by decide +kernel
theorem d_NC_refuse_11 : decode (yB Y_NC_refuse) 11 = .ok (.iconst (-1), 1) := by decide +kernel
theorem d_NC_refuse_12 : decode (yB Y_NC_refuse) 12 = .ok (.iload_n 1, 1) := by decide +kernel
theorem d_NC_refuse_13 : decode (yB Y_NC_refuse) 13 = .ok (.isub, 1) := by decide +kernel
theorem d_NC_refuse_14 : decode (yB Y_NC_refuse) 14 = .ok (.goto 7, 3) := by decide +kernel
theorem d_NC_refuse_17 : decode (yB Y_NC_refuse) 17 = .ok (.bipush (-2), 2) := by decide +kernel
theorem d_NC_refuse_19 : decode (yB Y_NC_refuse) 19 = .ok (.iload_n 1, 1) := by decide +kernel
theorem d_NC_refuse_20 : decode (yB Y_NC_refuse) 20 = .ok (.isub, 1) := by decide +kernel
theorem d_NC_refuse_21 : decode (yB Y_NC_refuse) 21 = .ok (.istore_n 2, 1) := by decide +kernel
theorem d_NC_refuse_22 : decode (yB Y_NC_refuse) 22 = .ok (.iload_n 2, 1) := by decide +kernel
theorem d_NC_refuse_23 : decode (yB Y_NC_refuse) 23 = .ok (.iconst 0, 1) := by decide +kernel
theorem d_NC_refuse_24 : decode (yB Y_NC_refuse) 24 = .ok (.aload_n 0, 1) := by decide +kernel
theorem d_NC_refuse_25 : decode (yB Y_NC_refuse) 25 = .ok (.getfield 90, 3) := by decide +kernel
theorem d_NC_refuse_28 : decode (yB Y_NC_refuse) 28 = .ok (.arraylength, 1) := by decide +kernel
theorem d_NC_refuse_29 : decode (yB Y_NC_refuse) 29 = .ok (.iconst 1, 1) := by decide +kernel
theorem d_NC_refuse_30 : decode (yB Y_NC_refuse) 30 = .ok (.isub, 1) := by decide +kernel
theorem d_NC_refuse_31 : decode (yB Y_NC_refuse) 31 = .ok (.invokestatic 132, 3) := by decide +kernel
theorem d_NC_refuse_34 : decode (yB Y_NC_refuse) 34 = .ok (.ifCond .eq 13, 3) := by decide +kernel
theorem d_NC_refuse_37 : decode (yB Y_NC_refuse) 37 = .ok (.aload_n 0, 1) := by decide +kernel
theorem d_NC_refuse_38 : decode (yB Y_NC_refuse) 38 = .ok (.getfield 90, 3) := by decide +kernel
theorem d_NC_refuse_41 : decode (yB Y_NC_refuse) 41 = .ok (.iload_n 2, 1) := by decide +kernel
theorem d_NC_refuse_42 : decode (yB Y_NC_refuse) 42 = .ok (.dup2, 1) := by decide +kernel
theorem d_NC_refuse_43 : decode (yB Y_NC_refuse) 43 = .ok (.iaload, 1) := by decide +kernel
theorem d_NC_refuse_44 : decode (yB Y_NC_refuse) 44 = .ok (.iconst 1, 1) := by decide +kernel
theorem d_NC_refuse_45 : decode (yB Y_NC_refuse) 45 = .ok (.iadd, 1) := by decide +kernel
theorem d_NC_refuse_46 : decode (yB Y_NC_refuse) 46 = .ok (.iastore, 1) := by decide +kernel
theorem d_NC_refuse_47 : decode (yB Y_NC_refuse) 47 = .ok (.iload_n 1, 1) := by decide +kernel
theorem d_NC_refuse_48 : decode (yB Y_NC_refuse) 48 = .ok (.ireturn, 1) := by decide +kernel
def F_NC_refuse_b21 (n : Nat) (E : zE) (S : zS) (a0 : Nat) (x1 : Int32) (s0 : Int32) (M : zH) : Option (Int32 × zH) :=
  (zgR S a0 10 13).bind fun b_1 =>
  (zlen S 12 b_1).bind fun v_2 =>
  (F_NC_within n E S s0 0 (v_2 - 1) M).bind fun q_3 =>
  if q_3.1 = true then
    (zldI S q_3.2 b_1 s0).bind fun v_5 =>
    (zstI S q_3.2 b_1 s0 (v_5 + 1)).bind fun m_6 =>
    some (x1, m_6)
  else
    some (x1, q_3.2)
def F_NC_refuse (n : Nat) (E : zE) (S : zS) (a0 : Nat) (x1 : Int32) (M : zH) : Option (Int32 × zH) :=
  (zpI S M a0 10 15 x1).bind fun m_7 =>
  if x1 ≤ (-4) then
    F_NC_refuse_b21 n E S a0 x1 ((-2) - x1) m_7
  else
    F_NC_refuse_b21 n E S a0 x1 ((-1) - x1) m_7
theorem K_NC_refuse_b21 (n : Nat) (E : zE) (S : zS) (a0 : Nat) (x1 : Int32) (s0 : Int32) (M : zH) (r : Int32) (M' : zH)  (h : F_NC_refuse_b21 n E S a0 x1 s0 M = some (r, M')) : zG E Y_NC_refuse (some (.int r), S, M') 21 [(0, .ref a0), (1, .int x1)] [.int s0] S M 0 0 := by
  unfold F_NC_refuse_b21 at h
  refine zi_istore_n [(2, .int s0), (0, .ref a0), (1, .int x1)] d_NC_refuse_21 (by decide) rfl ?_
  refine zi_iload_n 0 d_NC_refuse_22 rfl ?_
  refine zi_iconst 0 d_NC_refuse_23 rfl ?_
  refine zi_aload_n 1 d_NC_refuse_24 rfl ?_
  obtain ⟨b_1, eb_1, h⟩ := zbind h
  refine zo_getR 28 zkd_10 13 d_NC_refuse_25 eb_1 rfl tw_345 rfl ?_
  obtain ⟨v_2, ev_2, h⟩ := zbind h
  refine zo_alen 29 d_NC_refuse_28 ev_2 (by decide) rfl ?_
  refine zi_iconst 1 d_NC_refuse_29 rfl ?_
  refine zi_isub d_NC_refuse_30 ?_
  obtain ⟨q_3, eq_3, h⟩ := zbind h
  refine zo_stat (k' := 0) (n' := 0) 34 [.int s0, .int 0, .int (v_2 - 1)] [] [.int (bI q_3.1)] (C_NC_within n E S s0 0 (v_2 - 1) M q_3.1 q_3.2 eq_3) d_NC_refuse_31 tw_399 tw_397 tw_398 tw_1 dd_NC_within ⟨Nat.le_of_ble_eq_true rfl, Nat.le_of_ble_eq_true rfl, Nat.le_of_ble_eq_true rfl, Nat.le_of_ble_eq_true rfl⟩ (Nat.le_of_ble_eq_true rfl) rfl rfl rfl rfl ?_
  refine zo_ifeqB d_NC_refuse_34 rfl 37 rfl (fun c_4 => ?_) (fun c_4 => ?_)
  · rw [if_neg c_4] at h
    refine zi_iload_n 2 d_NC_refuse_47 rfl ?_
    cases h
    exact zo_ret d_NC_refuse_48 (Nat.le_of_ble_eq_true rfl) (Nat.le_of_ble_eq_true rfl) rfl
  · rw [if_pos c_4] at h
    refine zi_aload_n 1 d_NC_refuse_37 rfl ?_
    refine zo_getR 41 zkd_10 13 d_NC_refuse_38 eb_1 rfl tw_345 rfl ?_
    refine zi_iload_n 0 d_NC_refuse_41 rfl ?_
    refine zi_dup2 d_NC_refuse_42 rfl rfl ?_
    obtain ⟨v_5, ev_5, h⟩ := zbind h
    refine zo_iald 44 d_NC_refuse_43 ev_5 rfl ?_
    refine zi_iconst 1 d_NC_refuse_44 rfl ?_
    refine zi_iadd d_NC_refuse_45 ?_
    obtain ⟨m_6, em_6, h⟩ := zbind h
    refine zo_iast 47 d_NC_refuse_46 em_6 rfl ?_
    refine zi_iload_n 2 d_NC_refuse_47 rfl ?_
    cases h
    exact zo_ret d_NC_refuse_48 (Nat.le_of_ble_eq_true rfl) (Nat.le_of_ble_eq_true rfl) rfl
theorem K_NC_refuse (n : Nat) (E : zE) (S : zS) (a0 : Nat) (x1 : Int32) (M : zH) (r : Int32) (M' : zH)  (h : F_NC_refuse n E S a0 x1 M = some (r, M')) : zG E Y_NC_refuse (some (.int r), S, M') 0 [(0, .ref a0), (1, .int x1)] [] S M 0 0 := by
  unfold F_NC_refuse at h
  refine zi_aload_n 0 d_NC_refuse_0 rfl ?_
  refine zi_iload_n 1 d_NC_refuse_1 rfl ?_
  obtain ⟨m_7, em_7, h⟩ := zbind h
  refine zo_putI 5 zkd_10 15 d_NC_refuse_2 em_7 rfl rfl rfl tw_347 rfl ?_
  refine zi_iload_n 1 d_NC_refuse_5 rfl ?_
  refine zi_bipush (-4) d_NC_refuse_6 rfl ?_
  refine zi_icmp_le (tgt := 17) d_NC_refuse_8 rfl (fun c_8 => ?_) (fun c_8 => ?_)
  · rw [if_pos c_8] at h
    refine zi_bipush (-2) d_NC_refuse_17 rfl ?_
    refine zi_iload_n 1 d_NC_refuse_19 rfl ?_
    refine zi_isub d_NC_refuse_20 ?_
    refine zi_lo [(0, .ref a0), (1, .int x1)] [0, 1] rfl ?_
    exact K_NC_refuse_b21 n E S a0 x1 ((-2) - x1) m_7 r M'  h
  · rw [if_neg c_8] at h
    refine zi_iconst (-1) d_NC_refuse_11 rfl ?_
    refine zi_iload_n 1 d_NC_refuse_12 rfl ?_
    refine zi_isub d_NC_refuse_13 ?_
    refine zi_goto (tgt := 21) d_NC_refuse_14 rfl ?_
    refine zi_lo [(0, .ref a0), (1, .int x1)] [0, 1] rfl ?_
    exact K_NC_refuse_b21 n E S a0 x1 ((-1) - x1) m_7 r M'  h
theorem C_NC_refuse (n : Nat) (E : zE) (S : zS) (a0 : Nat) (x1 : Int32) (M : zH) (r : Int32) (M' : zH) (h : F_NC_refuse n E S a0 x1 M = some (r, M')) : zC E Y_NC_refuse [.ref a0, .int x1] S M (some (.int r), S, M') :=
  zC.of (Or.inl (show plainName "NightColander" = true by decide)) (Nat.le_of_ble_eq_true rfl) (trivial) (K_NC_refuse n E S a0 x1 M r M' h)
theorem d_Pt_clear_0 : decode (yB Y_Pt_clear) 0 = .ok (.aload_n 0, 1) := by decide +kernel
theorem d_Pt_clear_1 : decode (yB Y_Pt_clear) 1 = .ok (.iconst 0, 1) := by decide +kernel
theorem d_Pt_clear_2 : decode (yB Y_Pt_clear) 2 = .ok (.putfield 15, 3) := by decide +kernel
theorem d_Pt_clear_5 : decode (yB Y_Pt_clear) 5 = .ok (.return_, 1) := by decide +kernel
def F_Pt_clear (n : Nat) (E : zE) (S : zS) (a0 : Nat) (M : zH) : Option (zH) :=
  (zpI S M a0 6 1 0).bind fun m_1 =>
  some (m_1)
theorem K_Pt_clear (n : Nat) (E : zE) (S : zS) (a0 : Nat) (M : zH) (M' : zH)  (h : F_Pt_clear n E S a0 M = some M') : zG E Y_Pt_clear (none, S, M') 0 [(0, .ref a0)] [] S M 0 0 := by
  unfold F_Pt_clear at h
  refine zi_aload_n 0 d_Pt_clear_0 rfl ?_
  refine zi_iconst 0 d_Pt_clear_1 rfl ?_
  obtain ⟨m_1, em_1, h⟩ := zbind h
  refine zo_putI 5 zkd_6 1 d_Pt_clear_2 em_1 rfl rfl rfl tw_139 rfl ?_
  cases h
  exact zo_ret d_Pt_clear_5 (Nat.le_of_ble_eq_true rfl) (Nat.le_of_ble_eq_true rfl) rfl
theorem C_Pt_clear (n : Nat) (E : zE) (S : zS) (a0 : Nat) (M : zH) (M' : zH) (h : F_Pt_clear n E S a0 M = some M') : zC E Y_Pt_clear [.ref a0] S M (none, S, M') :=
  zC.of (Or.inl (show plainName "NightColander$Past" = true by decide)) (Nat.le_of_ble_eq_true rfl) (trivial) (K_Pt_clear n E S a0 M M' h)
theorem d_NC_turn_0 : decode (yB Y_NC_turn) 0 = .ok (.iload_n 1, 1) := by decide +kernel
theorem d_NC_turn_1 : decode (yB Y_NC_turn) 1 = .ok (.invokestatic 111, 3) := by decide +kernel
theorem d_NC_turn_4 : decode (yB Y_NC_turn) 4 = .ok (.ifCond .eq 13, 3) := by decide +kernel
theorem d_NC_turn_7 : decode (yB Y_NC_turn) 7 = .ok (.iload_n 2, 1) := by decide +kernel
theorem d_NC_turn_8 : decode (yB Y_NC_turn) 8 = .ok (.iconst 0, 1) := by decide +kernel
theorem d_NC_turn_9 : decode (yB Y_NC_turn) 9 = .ok (.bipush 7, 2) := by decide +kernel
theorem d_NC_turn_11 : decode (yB Y_NC_turn) 11 = .ok (.invokestatic 132, 3) := by decide +kernel
theorem d_NC_turn_14 : decode (yB Y_NC_turn) 14 = .ok (.ifCond .ne 9, 3) := by decide +kernel
theorem d_NC_turn_17 : decode (yB Y_NC_turn) 17 = .ok (.aload_n 0, 1) := by decide +kernel
theorem d_NC_turn_18 : decode (yB Y_NC_turn) 18 = .ok (.iconst (-1), 1) := by decide +kernel
theorem d_NC_turn_19 : decode (yB Y_NC_turn) 19 = .ok (.invokevirtual 136, 3) := by decide +kernel
theorem d_NC_turn_22 : decode (yB Y_NC_turn) 22 = .ok (.ireturn, 1) := by decide +kernel
theorem d_NC_turn_23 : decode (yB Y_NC_turn) 23 = .ok (.aload_n 0, 1) := by decide +kernel
theorem d_NC_turn_24 : decode (yB Y_NC_turn) 24 = .ok (.getfield 12, 3) := by decide +kernel
theorem d_NC_turn_27 : decode (yB Y_NC_turn) 27 = .ok (.getfield 140, 3) := by decide +kernel
theorem d_NC_turn_30 : decode (yB Y_NC_turn) 30 = .ok (.iload_n 1, 1) := by decide +kernel
theorem d_NC_turn_31 : decode (yB Y_NC_turn) 31 = .ok (.iaload, 1) := by decide +kernel
theorem d_NC_turn_32 : decode (yB Y_NC_turn) 32 = .ok (.istore_n 3, 1) := by decide +kernel
theorem d_NC_turn_33 : decode (yB Y_NC_turn) 33 = .ok (.aload_n 0, 1) := by decide +kernel
theorem d_NC_turn_34 : decode (yB Y_NC_turn) 34 = .ok (.getfield 12, 3) := by decide +kernel
theorem d_NC_turn_37 : decode (yB Y_NC_turn) 37 = .ok (.getfield 140, 3) := by decide +kernel
theorem d_NC_turn_40 : decode (yB Y_NC_turn) 40 = .ok (.iload_n 1, 1) := by decide +kernel
theorem d_NC_turn_41 : decode (yB Y_NC_turn) 41 = .ok (.iload_n 2, 1) := by decide +kernel
theorem d_NC_turn_42 : decode (yB Y_NC_turn) 42 = .ok (.iastore, 1) := by decide +kernel
theorem d_NC_turn_43 : decode (yB Y_NC_turn) 43 = .ok (.aload_n 0, 1) := by decide +kernel
theorem d_NC_turn_44 : decode (yB Y_NC_turn) 44 = .ok (.getfield 35, 3) := by decide +kernel
theorem d_NC_turn_47 : decode (yB Y_NC_turn) 47 = .ok (.invokevirtual 143, 3) := by decide +kernel
theorem d_NC_turn_50 : decode (yB Y_NC_turn) 50 = .ok (.aload_n 0, 1) := by decide +kernel
theorem d_NC_turn_51 : decode (yB Y_NC_turn) 51 = .ok (.iload_n 3, 1) := by decide +kernel
theorem d_NC_turn_52 : decode (yB Y_NC_turn) 52 = .ok (.invokevirtual 146, 3) := by decide +kernel
theorem d_NC_turn_55 : decode (yB Y_NC_turn) 55 = .ok (.ireturn, 1) := by decide +kernel
def F_NC_turn_b17 (n : Nat) (E : zE) (S : zS) (a0 : Nat) (M : zH) : Option (Int32 × zH) :=
  (zck S a0 10).bind fun u_1 =>
  (F_NC_refuse n E S a0 (-1) M).bind fun q_2 =>
  some (q_2.1, q_2.2)
def F_NC_turn (n : Nat) (E : zE) (S : zS) (a0 : Nat) (x1 : Int32) (x2 : Int32) (M : zH) : Option (Int32 × zH) :=
  (F_NC_isRing n E S x1 M).bind fun q_3 =>
  if q_3.1 = true then
    (F_NC_within n E S x2 0 7 q_3.2).bind fun q_5 =>
    if q_5.1 = true then
      (zgR S a0 10 0).bind fun b_7 =>
      (zgR S b_7 3 2).bind fun b_8 =>
      (zldI S q_5.2 b_8 x1).bind fun v_9 =>
      (zstI S q_5.2 b_8 x1 x2).bind fun m_10 =>
      (zgR S a0 10 5).bind fun b_11 =>
      (zck S b_11 6).bind fun u_12 =>
      (F_Pt_clear n E S b_11 m_10).bind fun q_13 =>
      (F_NC_accept n E S a0 v_9 q_13).bind fun q_14 =>
      some (q_14.1, q_14.2)
    else
      F_NC_turn_b17 n E S a0 q_5.2
  else
    F_NC_turn_b17 n E S a0 q_3.2
theorem K_NC_turn_b17 (n : Nat) (E : zE) (S : zS) (a0 : Nat) (M : zH) (r : Int32) (M' : zH)  (h : F_NC_turn_b17 n E S a0 M = some (r, M')) : zG E Y_NC_turn (some (.int r), S, M') 17 [(0, .ref a0)] [] S M 0 0 := by
  unfold F_NC_turn_b17 at h
  refine zi_aload_n 0 d_NC_turn_17 rfl ?_
  refine zi_iconst (-1) d_NC_turn_18 rfl ?_
  obtain ⟨u_1, eu_1, h⟩ := zbind h
  obtain ⟨q_2, eq_2, h⟩ := zbind h
  refine zo_virt (k' := 0) (n' := 0) 22 [.int (-1)] [] [.int q_2.1] zkd_10 (zck_s eu_1) (C_NC_refuse n E S a0 (-1) M q_2.1 q_2.2 eq_2) d_NC_turn_19 tw_448 tw_445 tw_447 ts_1 tw_1 dd_NC_refuse ⟨Nat.le_of_ble_eq_true rfl, Nat.le_of_ble_eq_true rfl, Nat.le_of_ble_eq_true rfl, Nat.le_of_ble_eq_true rfl⟩ (Nat.le_of_ble_eq_true rfl) rfl rfl rfl rfl ?_
  cases h
  exact zo_ret d_NC_turn_22 (Nat.le_of_ble_eq_true rfl) (Nat.le_of_ble_eq_true rfl) rfl
theorem K_NC_turn (n : Nat) (E : zE) (S : zS) (a0 : Nat) (x1 : Int32) (x2 : Int32) (M : zH) (r : Int32) (M' : zH)  (h : F_NC_turn n E S a0 x1 x2 M = some (r, M')) : zG E Y_NC_turn (some (.int r), S, M') 0 [(0, .ref a0), (1, .int x1), (2, .int x2)] [] S M 0 0 := by
  unfold F_NC_turn at h
  refine zi_iload_n 1 d_NC_turn_0 rfl ?_
  obtain ⟨q_3, eq_3, h⟩ := zbind h
  refine zo_stat (k' := 0) (n' := 0) 4 [.int x1] [] [.int (bI q_3.1)] (C_NC_isRing n E S x1 M q_3.1 q_3.2 eq_3) d_NC_turn_1 tw_396 tw_394 tw_395 tw_1 dd_NC_isRing ⟨Nat.le_of_ble_eq_true rfl, Nat.le_of_ble_eq_true rfl, Nat.le_of_ble_eq_true rfl, Nat.le_of_ble_eq_true rfl⟩ (Nat.le_of_ble_eq_true rfl) rfl rfl rfl rfl ?_
  refine zo_ifeqB d_NC_turn_4 rfl 7 rfl (fun c_4 => ?_) (fun c_4 => ?_)
  · rw [if_neg c_4] at h
    refine zi_lo [(0, .ref a0)] [0] rfl ?_
    exact K_NC_turn_b17 n E S a0 q_3.2 r M'  h
  · rw [if_pos c_4] at h
    refine zi_iload_n 2 d_NC_turn_7 rfl ?_
    refine zi_iconst 0 d_NC_turn_8 rfl ?_
    refine zi_bipush 7 d_NC_turn_9 rfl ?_
    obtain ⟨q_5, eq_5, h⟩ := zbind h
    refine zo_stat (k' := 0) (n' := 0) 14 [.int x2, .int 0, .int 7] [] [.int (bI q_5.1)] (C_NC_within n E S x2 0 7 q_3.2 q_5.1 q_5.2 eq_5) d_NC_turn_11 tw_399 tw_397 tw_398 tw_1 dd_NC_within ⟨Nat.le_of_ble_eq_true rfl, Nat.le_of_ble_eq_true rfl, Nat.le_of_ble_eq_true rfl, Nat.le_of_ble_eq_true rfl⟩ (Nat.le_of_ble_eq_true rfl) rfl rfl rfl rfl ?_
    refine zo_ifneB d_NC_turn_14 rfl 17 rfl (fun c_6 => ?_) (fun c_6 => ?_)
    · rw [if_pos c_6] at h
      refine zi_aload_n 0 d_NC_turn_23 rfl ?_
      obtain ⟨b_7, eb_7, h⟩ := zbind h
      refine zo_getR 27 zkd_10 0 d_NC_turn_24 eb_7 rfl tw_332 rfl ?_
      obtain ⟨b_8, eb_8, h⟩ := zbind h
      refine zo_getR 30 zkd_3 2 d_NC_turn_27 eb_8 rfl tw_53 rfl ?_
      refine zi_iload_n 1 d_NC_turn_30 rfl ?_
      obtain ⟨v_9, ev_9, h⟩ := zbind h
      refine zo_iald 32 d_NC_turn_31 ev_9 rfl ?_
      refine zi_istore_n [(3, .int v_9), (0, .ref a0), (1, .int x1), (2, .int x2)] d_NC_turn_32 (by decide) rfl ?_
      refine zi_aload_n 1 d_NC_turn_33 rfl ?_
      refine zo_getR 37 zkd_10 0 d_NC_turn_34 eb_7 rfl tw_332 rfl ?_
      refine zo_getR 40 zkd_3 2 d_NC_turn_37 eb_8 rfl tw_53 rfl ?_
      refine zi_iload_n 2 d_NC_turn_40 rfl ?_
      refine zi_iload_n 3 d_NC_turn_41 rfl ?_
      obtain ⟨m_10, em_10, h⟩ := zbind h
      refine zo_iast 43 d_NC_turn_42 em_10 rfl ?_
      refine zi_aload_n 1 d_NC_turn_43 rfl ?_
      obtain ⟨b_11, eb_11, h⟩ := zbind h
      refine zo_getR 47 zkd_10 5 d_NC_turn_44 eb_11 rfl tw_337 rfl ?_
      obtain ⟨u_12, eu_12, h⟩ := zbind h
      obtain ⟨q_13, eq_13, h⟩ := zbind h
      refine zo_virt (k' := 0) (n' := 0) 50 [] [] [] zkd_6 (zck_s eu_12) (C_Pt_clear n E S b_11 m_10 q_13 eq_13) d_NC_turn_47 tw_452 tw_449 tw_450 tw_451 tw_4 dd_Pt_clear ⟨Nat.le_of_ble_eq_true rfl, Nat.le_of_ble_eq_true rfl, Nat.le_of_ble_eq_true rfl, Nat.le_of_ble_eq_true rfl⟩ (Nat.le_of_ble_eq_true rfl) rfl rfl rfl rfl ?_
      refine zi_aload_n 1 d_NC_turn_50 rfl ?_
      refine zi_iload_n 0 d_NC_turn_51 rfl ?_
      obtain ⟨q_14, eq_14, h⟩ := zbind h
      refine zo_virt (k' := 0) (n' := 0) 55 [.int v_9] [] [.int q_14.1] zkd_10 (zgR_s eb_7).1 (C_NC_accept n E S a0 v_9 q_13 q_14.1 q_14.2 eq_14) d_NC_turn_52 tw_456 tw_453 tw_455 ts_2 tw_1 dd_NC_accept ⟨Nat.le_of_ble_eq_true rfl, Nat.le_of_ble_eq_true rfl, Nat.le_of_ble_eq_true rfl, Nat.le_of_ble_eq_true rfl⟩ (Nat.le_of_ble_eq_true rfl) rfl rfl rfl rfl ?_
      cases h
      exact zo_ret d_NC_turn_55 (Nat.le_of_ble_eq_true rfl) (Nat.le_of_ble_eq_true rfl) rfl
    · rw [if_neg c_6] at h
      refine zi_lo [(0, .ref a0)] [0] rfl ?_
      exact K_NC_turn_b17 n E S a0 q_5.2 r M'  h
theorem C_NC_turn (n : Nat) (E : zE) (S : zS) (a0 : Nat) (x1 : Int32) (x2 : Int32) (M : zH) (r : Int32) (M' : zH) (h : F_NC_turn n E S a0 x1 x2 M = some (r, M')) : zC E Y_NC_turn [.ref a0, .int x1, .int x2] S M (some (.int r), S, M') :=
  zC.of (Or.inl (show plainName "NightColander" = true by decide)) (Nat.le_of_ble_eq_true rfl) (trivial) (K_NC_turn n E S a0 x1 x2 M r M' h)
theorem d_NC_isField_0 : decode (yB Y_NC_isField) 0 = .ok (.iload_n 0, 1) := by decide +kernel
theorem d_NC_isField_1 : decode (yB Y_NC_isField) 1 = .ok (.iconst 0, 1) := by decide +kernel
theorem d_NC_isField_2 : decode (yB Y_NC_isField) 2 = .ok (.bipush 7, 2) := by decide +kernel
theorem d_NC_isField_4 : decode (yB Y_NC_isField) 4 = .ok (.invokestatic 132, 3) := by decide +kernel
theorem d_NC_isField_7 : decode (yB Y_NC_isField) 7 = .ok (.ireturn, 1) := by decide +kernel
def F_NC_isField (n : Nat) (E : zE) (S : zS) (x0 : Int32) (M : zH) : Option (Bool × zH) :=
  (F_NC_within n E S x0 0 7 M).bind fun q_1 =>
  some (q_1.1, q_1.2)
theorem K_NC_isField (n : Nat) (E : zE) (S : zS) (x0 : Int32) (M : zH) (r : Bool) (M' : zH)  (h : F_NC_isField n E S x0 M = some (r, M')) : zG E Y_NC_isField (some (.int (bI r)), S, M') 0 [(0, .int x0)] [] S M 0 0 := by
  unfold F_NC_isField at h
  refine zi_iload_n 0 d_NC_isField_0 rfl ?_
  refine zi_iconst 0 d_NC_isField_1 rfl ?_
  refine zi_bipush 7 d_NC_isField_2 rfl ?_
  obtain ⟨q_1, eq_1, h⟩ := zbind h
  refine zo_stat (k' := 0) (n' := 0) 7 [.int x0, .int 0, .int 7] [] [.int (bI q_1.1)] (C_NC_within n E S x0 0 7 M q_1.1 q_1.2 eq_1) d_NC_isField_4 tw_399 tw_397 tw_398 tw_1 dd_NC_within ⟨Nat.le_of_ble_eq_true rfl, Nat.le_of_ble_eq_true rfl, Nat.le_of_ble_eq_true rfl, Nat.le_of_ble_eq_true rfl⟩ (Nat.le_of_ble_eq_true rfl) rfl rfl rfl rfl ?_
  cases h
  exact zo_retB d_NC_isField_7 (Nat.le_of_ble_eq_true rfl) (Nat.le_of_ble_eq_true rfl) rfl
theorem C_NC_isField (n : Nat) (E : zE) (S : zS) (x0 : Int32) (M : zH) (r : Bool) (M' : zH) (h : F_NC_isField n E S x0 M = some (r, M')) : zC E Y_NC_isField [.int x0] S M (some (.int (bI r)), S, M') :=
  zC.of (Or.inl (show plainName "NightColander" = true by decide)) (Nat.le_of_ble_eq_true rfl) (bI_nar r) (K_NC_isField n E S x0 M r M' h)
theorem d_Ni_addBucket_0 : decode (yB Y_Ni_addBucket) 0 = .ok (.aload_n 0, 1) := by decide +kernel
theorem d_Ni_addBucket_1 : decode (yB Y_Ni_addBucket) 1 = .ok (.getfield 49, 3) := by decide +kernel
theorem d_Ni_addBucket_4 : decode (yB Y_Ni_addBucket) 4 = .ok (.iconst 3, 1) := by decide +kernel
theorem d_Ni_addBucket_5 : decode (yB Y_Ni_addBucket) 5 = .ok (.if_icmp .lt 5, 3) := by decide +kernel
theorem d_Ni_addBucket_8 : decode (yB Y_Ni_addBucket) 8 = .ok (.iconst (-1), 1) := by decide +kernel
theorem d_Ni_addBucket_9 : decode (yB Y_Ni_addBucket) 9 = .ok (.ireturn, 1) := by decide +kernel
theorem d_Ni_addBucket_10 : decode (yB Y_Ni_addBucket) 10 = .ok (.aload_n 0, 1) := by decide +kernel
theorem d_Ni_addBucket_11 : decode (yB Y_Ni_addBucket) 11 = .ok (.getfield 22, 3) := by decide +kernel
theorem d_Ni_addBucket_14 : decode (yB Y_Ni_addBucket) 14 = .ok (.aload_n 0, 1) := by decide +kernel
theorem d_Ni_addBucket_15 : decode (yB Y_Ni_addBucket) 15 = .ok (.getfield 49, 3) := by decide +kernel
theorem d_Ni_addBucket_18 : decode (yB Y_Ni_addBucket) 18 = .ok (.iload_n 1, 1) := by decide +kernel
theorem d_Ni_addBucket_19 : decode (yB Y_Ni_addBucket) 19 = .ok (.iastore, 1) := by decide +kernel
theorem d_Ni_addBucket_20 : decode (yB Y_Ni_addBucket) 20 = .ok (.aload_n 0, 1) := by decide +kernel
theorem d_Ni_addBucket_21 : decode (yB Y_Ni_addBucket) 21 = .ok (.getfield 25, 3) := by decide +kernel
theorem d_Ni_addBucket_24 : decode (yB Y_Ni_addBucket) 24 = .ok (.aload_n 0, 1) := by decide +kernel
theorem d_Ni_addBucket_25 : decode (yB Y_Ni_addBucket) 25 = .ok (.getfield 49, 3) := by decide +kernel
theorem d_Ni_addBucket_28 : decode (yB Y_Ni_addBucket) 28 = .ok (.iconst 0, 1) := by decide +kernel
theorem d_Ni_addBucket_29 : decode (yB Y_Ni_addBucket) 29 = .ok (.iastore, 1) := by decide +kernel
theorem d_Ni_addBucket_30 : decode (yB Y_Ni_addBucket) 30 = .ok (.aload_n 0, 1) := by decide +kernel
theorem d_Ni_addBucket_31 : decode (yB Y_Ni_addBucket) 31 = .ok (.getfield 28, 3) := by decide +kernel
theorem d_Ni_addBucket_34 : decode (yB Y_Ni_addBucket) 34 = .ok (.aload_n 0, 1) := by decide +kernel
theorem d_Ni_addBucket_35 : decode (yB Y_Ni_addBucket) 35 = .ok (.getfield 49, 3) := by decide +kernel
theorem d_Ni_addBucket_38 : decode (yB Y_Ni_addBucket) 38 = .ok (.iload_n 2, 1) := by decide +kernel
theorem d_Ni_addBucket_39 : decode (yB Y_Ni_addBucket) 39 = .ok (.iastore, 1) := by decide +kernel
theorem d_Ni_addBucket_40 : decode (yB Y_Ni_addBucket) 40 = .ok (.aload_n 0, 1) := by decide +kernel
theorem d_Ni_addBucket_41 : decode (yB Y_Ni_addBucket) 41 = .ok (.dup, 1) := by decide +kernel
theorem d_Ni_addBucket_42 : decode (yB Y_Ni_addBucket) 42 = .ok (.getfield 49, 3) := by decide +kernel
theorem d_Ni_addBucket_45 : decode (yB Y_Ni_addBucket) 45 = .ok (.iconst 1, 1) := by decide +kernel
theorem d_Ni_addBucket_46 : decode (yB Y_Ni_addBucket) 46 = .ok (.iadd, 1) := by decide +kernel
theorem d_Ni_addBucket_47 : decode (yB Y_Ni_addBucket) 47 = .ok (.putfield 49, 3) := by decide +kernel
theorem d_Ni_addBucket_50 : decode (yB Y_Ni_addBucket) 50 = .ok (.aload_n 0, 1) := by decide +kernel
theorem d_Ni_addBucket_51 : decode (yB Y_Ni_addBucket) 51 = .ok (.getfield 49, 3) := by decide +kernel
theorem d_Ni_addBucket_54 : decode (yB Y_Ni_addBucket) 54 = .ok (.iconst 1, 1) := by decide +kernel
theorem d_Ni_addBucket_55 : decode (yB Y_Ni_addBucket) 55 = .ok (.isub, 1) := by decide +kernel
theorem d_Ni_addBucket_56 : decode (yB Y_Ni_addBucket) 56 = .ok (.ireturn, 1) := by decide +kernel
def F_Ni_addBucket (n : Nat) (E : zE) (S : zS) (a0 : Nat) (x1 : Int32) (x2 : Int32) (M : zH) : Option (Int32 × zH) :=
  (zgI S M a0 3 11).bind fun v_1 =>
  if v_1 < 3 then
    (zgR S a0 3 3).bind fun b_3 =>
    (zgI S M a0 3 11).bind fun v_4 =>
    (zstI S M b_3 v_4 x1).bind fun m_5 =>
    (zgR S a0 3 4).bind fun b_6 =>
    (zgI S m_5 a0 3 11).bind fun v_7 =>
    (zstI S m_5 b_6 v_7 0).bind fun m_8 =>
    (zgR S a0 3 5).bind fun b_9 =>
    (zgI S m_8 a0 3 11).bind fun v_10 =>
    (zstI S m_8 b_9 v_10 x2).bind fun m_11 =>
    (zgI S m_11 a0 3 11).bind fun v_12 =>
    (zpI S m_11 a0 3 11 (v_12 + 1)).bind fun m_13 =>
    (zgI S m_13 a0 3 11).bind fun v_14 =>
    some (v_14 - 1, m_13)
  else
    some ((-1), M)
theorem K_Ni_addBucket (n : Nat) (E : zE) (S : zS) (a0 : Nat) (x1 : Int32) (x2 : Int32) (M : zH) (r : Int32) (M' : zH)  (h : F_Ni_addBucket n E S a0 x1 x2 M = some (r, M')) : zG E Y_Ni_addBucket (some (.int r), S, M') 0 [(0, .ref a0), (1, .int x1), (2, .int x2)] [] S M 0 0 := by
  unfold F_Ni_addBucket at h
  refine zi_aload_n 0 d_Ni_addBucket_0 rfl ?_
  obtain ⟨v_1, ev_1, h⟩ := zbind h
  refine zo_getI 4 zkd_3 11 d_Ni_addBucket_1 ev_1 rfl tw_86 rfl ?_
  refine zi_iconst 3 d_Ni_addBucket_4 rfl ?_
  refine zi_icmp_lt (tgt := 10) d_Ni_addBucket_5 rfl (fun c_2 => ?_) (fun c_2 => ?_)
  · rw [if_pos c_2] at h
    refine zi_aload_n 0 d_Ni_addBucket_10 rfl ?_
    obtain ⟨b_3, eb_3, h⟩ := zbind h
    refine zo_getR 14 zkd_3 3 d_Ni_addBucket_11 eb_3 rfl tw_56 rfl ?_
    refine zi_aload_n 0 d_Ni_addBucket_14 rfl ?_
    obtain ⟨v_4, ev_4, h⟩ := zbind h
    refine zo_getI 18 zkd_3 11 d_Ni_addBucket_15 ev_4 rfl tw_86 rfl ?_
    refine zi_iload_n 1 d_Ni_addBucket_18 rfl ?_
    obtain ⟨m_5, em_5, h⟩ := zbind h
    refine zo_iast 20 d_Ni_addBucket_19 em_5 rfl ?_
    refine zi_aload_n 0 d_Ni_addBucket_20 rfl ?_
    obtain ⟨b_6, eb_6, h⟩ := zbind h
    refine zo_getR 24 zkd_3 4 d_Ni_addBucket_21 eb_6 rfl tw_60 rfl ?_
    refine zi_aload_n 0 d_Ni_addBucket_24 rfl ?_
    obtain ⟨v_7, ev_7, h⟩ := zbind h
    refine zo_getI 28 zkd_3 11 d_Ni_addBucket_25 ev_7 rfl tw_86 rfl ?_
    refine zi_iconst 0 d_Ni_addBucket_28 rfl ?_
    obtain ⟨m_8, em_8, h⟩ := zbind h
    refine zo_iast 30 d_Ni_addBucket_29 em_8 rfl ?_
    refine zi_aload_n 0 d_Ni_addBucket_30 rfl ?_
    obtain ⟨b_9, eb_9, h⟩ := zbind h
    refine zo_getR 34 zkd_3 5 d_Ni_addBucket_31 eb_9 rfl tw_67 rfl ?_
    refine zi_aload_n 0 d_Ni_addBucket_34 rfl ?_
    obtain ⟨v_10, ev_10, h⟩ := zbind h
    refine zo_getI 38 zkd_3 11 d_Ni_addBucket_35 ev_10 rfl tw_86 rfl ?_
    refine zi_iload_n 2 d_Ni_addBucket_38 rfl ?_
    obtain ⟨m_11, em_11, h⟩ := zbind h
    refine zo_iast 40 d_Ni_addBucket_39 em_11 rfl ?_
    refine zi_aload_n 0 d_Ni_addBucket_40 rfl ?_
    refine zi_dup d_Ni_addBucket_41 rfl ?_
    obtain ⟨v_12, ev_12, h⟩ := zbind h
    refine zo_getI 45 zkd_3 11 d_Ni_addBucket_42 ev_12 rfl tw_86 rfl ?_
    refine zi_iconst 1 d_Ni_addBucket_45 rfl ?_
    refine zi_iadd d_Ni_addBucket_46 ?_
    obtain ⟨m_13, em_13, h⟩ := zbind h
    refine zo_putI 50 zkd_3 11 d_Ni_addBucket_47 em_13 rfl rfl rfl tw_86 rfl ?_
    refine zi_aload_n 0 d_Ni_addBucket_50 rfl ?_
    obtain ⟨v_14, ev_14, h⟩ := zbind h
    refine zo_getI 54 zkd_3 11 d_Ni_addBucket_51 ev_14 rfl tw_86 rfl ?_
    refine zi_iconst 1 d_Ni_addBucket_54 rfl ?_
    refine zi_isub d_Ni_addBucket_55 ?_
    cases h
    exact zo_ret d_Ni_addBucket_56 (Nat.le_of_ble_eq_true rfl) (Nat.le_of_ble_eq_true rfl) rfl
  · rw [if_neg c_2] at h
    refine zi_iconst (-1) d_Ni_addBucket_8 rfl ?_
    cases h
    exact zo_ret d_Ni_addBucket_9 (Nat.le_of_ble_eq_true rfl) (Nat.le_of_ble_eq_true rfl) rfl
theorem C_Ni_addBucket (n : Nat) (E : zE) (S : zS) (a0 : Nat) (x1 : Int32) (x2 : Int32) (M : zH) (r : Int32) (M' : zH) (h : F_Ni_addBucket n E S a0 x1 x2 M = some (r, M')) : zC E Y_Ni_addBucket [.ref a0, .int x1, .int x2] S M (some (.int r), S, M') :=
  zC.of (Or.inl (show plainName "NightColander$Night" = true by decide)) (Nat.le_of_ble_eq_true rfl) (trivial) (K_Ni_addBucket n E S a0 x1 x2 M r M' h)
theorem d_Ni_bucketAt_0 : decode (yB Y_Ni_bucketAt) 0 = .ok (.iconst 0, 1) := by decide +kernel
theorem d_Ni_bucketAt_1 : decode (yB Y_Ni_bucketAt) 1 = .ok (.istore_n 2, 1) := by decide +kernel
theorem d_Ni_bucketAt_2 : decode (yB Y_Ni_bucketAt) 2 = .ok (.iload_n 2, 1) := by decide +kernel
theorem d_Ni_bucketAt_3 : decode (yB Y_Ni_bucketAt) 3 = .ok (.aload_n 0, 1) := by decide +kernel
theorem d_Ni_bucketAt_4 : decode (yB Y_Ni_bucketAt) 4 = .ok (.getfield 49, 3) := by decide +kernel
theorem d_Ni_bucketAt_7 : decode (yB Y_Ni_bucketAt) 7 = .ok (.if_icmp .ge 21, 3) := by decide +kernel
theorem d_Ni_bucketAt_10 : decode (yB Y_Ni_bucketAt) 10 = .ok (.aload_n 0, 1) := by decide +kernel
theorem d_Ni_bucketAt_11 : decode (yB Y_Ni_bucketAt) 11 = .ok (.getfield 28, 3) := by decide +kernel
theorem d_Ni_bucketAt_14 : decode (yB Y_Ni_bucketAt) 14 = .ok (.iload_n 2, 1) := by decide +kernel
theorem d_Ni_bucketAt_15 : decode (yB Y_Ni_bucketAt) 15 = .ok (.iaload, 1) := by decide +kernel
theorem d_Ni_bucketAt_16 : decode (yB Y_Ni_bucketAt) 16 = .ok (.iload_n 1, 1) := by decide +kernel
theorem d_Ni_bucketAt_17 : decode (yB Y_Ni_bucketAt) 17 = .ok (.if_icmp .ne 5, 3) := by decide +kernel
theorem d_Ni_bucketAt_20 : decode (yB Y_Ni_bucketAt) 20 = .ok (.iload_n 2, 1) := by decide +kernel
theorem d_Ni_bucketAt_21 : decode (yB Y_Ni_bucketAt) 21 = .ok (.ireturn, 1) := by decide +kernel
theorem d_Ni_bucketAt_22 : decode (yB Y_Ni_bucketAt) 22 = .ok (.iinc 2 1, 3) := by decide +kernel
theorem d_Ni_bucketAt_25 : decode (yB Y_Ni_bucketAt) 25 = .ok (.goto (-23), 3) := by decide +kernel
theorem d_Ni_bucketAt_28 : decode (yB Y_Ni_bucketAt) 28 = .ok (.iconst (-1), 1) := by decide +kernel
theorem d_Ni_bucketAt_29 : decode (yB Y_Ni_bucketAt) 29 = .ok (.ireturn, 1) := by decide +kernel
def F_Ni_bucketAt_L2 (n : Nat) (E : zE) (S : zS) (r2 : Nat × Int32 × Int32 × zH → Option (Int32 × zH)) (a0 : Nat) (x1 : Int32) (x2 : Int32) (M : zH) : Option (Int32 × zH) :=
  (zgI S M a0 3 11).bind fun v_1 =>
  if v_1 ≤ x2 then
    some ((-1), M)
  else
    (zgR S a0 3 5).bind fun b_3 =>
    (zldI S M b_3 x2).bind fun v_4 =>
    if v_4 = x1 then
      some (x2, M)
    else
      r2 (a0, x1, x2 + 1, M)
def F_Ni_bucketAt_b2 (n : Nat) (E : zE) (S : zS) : Nat × Int32 × Int32 × zH → Option (Int32 × zH) := zfix (fun r2 s => F_Ni_bucketAt_L2 n E S r2 s.1 s.2.1 s.2.2.1 s.2.2.2) n
def F_Ni_bucketAt (n : Nat) (E : zE) (S : zS) (a0 : Nat) (x1 : Int32) (M : zH) : Option (Int32 × zH) :=
  F_Ni_bucketAt_b2 n E S (a0, x1, 0, M)
theorem K_Ni_bucketAt_L2 (n : Nat) (E : zE) (S : zS) (r2 : Nat × Int32 × Int32 × zH → Option (Int32 × zH)) (a0 : Nat) (x1 : Int32) (x2 : Int32) (M : zH) (r : Int32) (M' : zH) (hr2 : ∀ (a0 : Nat) (x1 : Int32) (x2 : Int32) (M : zH), r2 (a0, x1, x2, M) = some (r, M') → zG E Y_Ni_bucketAt (some (.int r), S, M') 2 [(0, .ref a0), (1, .int x1), (2, .int x2)] [] S M 0 0) (h : F_Ni_bucketAt_L2 n E S r2 a0 x1 x2 M = some (r, M')) : zG E Y_Ni_bucketAt (some (.int r), S, M') 2 [(0, .ref a0), (1, .int x1), (2, .int x2)] [] S M 0 0 := by
  unfold F_Ni_bucketAt_L2 at h
  refine zi_iload_n 2 d_Ni_bucketAt_2 rfl ?_
  refine zi_aload_n 0 d_Ni_bucketAt_3 rfl ?_
  obtain ⟨v_1, ev_1, h⟩ := zbind h
  refine zo_getI 7 zkd_3 11 d_Ni_bucketAt_4 ev_1 rfl tw_86 rfl ?_
  refine zi_icmp_ge (tgt := 28) d_Ni_bucketAt_7 rfl (fun c_2 => ?_) (fun c_2 => ?_)
  · rw [if_pos c_2] at h
    refine zi_iconst (-1) d_Ni_bucketAt_28 rfl ?_
    cases h
    exact zo_ret d_Ni_bucketAt_29 (Nat.le_of_ble_eq_true rfl) (Nat.le_of_ble_eq_true rfl) rfl
  · rw [if_neg c_2] at h
    refine zi_aload_n 0 d_Ni_bucketAt_10 rfl ?_
    obtain ⟨b_3, eb_3, h⟩ := zbind h
    refine zo_getR 14 zkd_3 5 d_Ni_bucketAt_11 eb_3 rfl tw_67 rfl ?_
    refine zi_iload_n 2 d_Ni_bucketAt_14 rfl ?_
    obtain ⟨v_4, ev_4, h⟩ := zbind h
    refine zo_iald 16 d_Ni_bucketAt_15 ev_4 rfl ?_
    refine zi_iload_n 1 d_Ni_bucketAt_16 rfl ?_
    refine zi_icmp_ne (tgt := 22) d_Ni_bucketAt_17 rfl (fun c_5 => ?_) (fun c_5 => ?_)
    · rw [if_neg c_5] at h
      refine zi_iinc 2 (x2 + 1) [(2, .int (x2 + 1)), (0, .ref a0), (1, .int x1)] d_Ni_bucketAt_22 rfl rfl (by decide) rfl ?_
      refine zi_goto (tgt := 2) d_Ni_bucketAt_25 rfl ?_
      refine zi_lo [(0, .ref a0), (1, .int x1), (2, .int (x2 + 1))] [1, 2, 0] rfl ?_
      exact hr2 a0 x1 (x2 + 1) M h
    · rw [if_pos c_5] at h
      refine zi_iload_n 2 d_Ni_bucketAt_20 rfl ?_
      cases h
      exact zo_ret d_Ni_bucketAt_21 (Nat.le_of_ble_eq_true rfl) (Nat.le_of_ble_eq_true rfl) rfl
theorem K_Ni_bucketAt_b2 (n : Nat) (E : zE) (S : zS) (a0 : Nat) (x1 : Int32) (x2 : Int32) (M : zH) (r : Int32) (M' : zH)  (h : F_Ni_bucketAt_b2 n E S (a0, x1, x2, M) = some (r, M')) : zG E Y_Ni_bucketAt (some (.int r), S, M') 2 [(0, .ref a0), (1, .int x1), (2, .int x2)] [] S M 0 0 := by
  have key : ∀ (k : Nat) (a0 : Nat) (x1 : Int32) (x2 : Int32) (M : zH), zfix (fun r2 s => F_Ni_bucketAt_L2 n E S r2 s.1 s.2.1 s.2.2.1 s.2.2.2) k (a0, x1, x2, M) = some (r, M') → zG E Y_Ni_bucketAt (some (.int r), S, M') 2 [(0, .ref a0), (1, .int x1), (2, .int x2)] [] S M 0 0 := by
    intro k
    induction k with
    | zero => intro a0 x1 x2 M h; cases h
    | succ k ih => intro a0 x1 x2 M h; exact K_Ni_bucketAt_L2 n E S _ a0 x1 x2 M r M'  (fun a0 x1 x2 M h => ih a0 x1 x2 M h) h
  exact key n a0 x1 x2 M h
theorem K_Ni_bucketAt (n : Nat) (E : zE) (S : zS) (a0 : Nat) (x1 : Int32) (M : zH) (r : Int32) (M' : zH)  (h : F_Ni_bucketAt n E S a0 x1 M = some (r, M')) : zG E Y_Ni_bucketAt (some (.int r), S, M') 0 [(0, .ref a0), (1, .int x1)] [] S M 0 0 := by
  unfold F_Ni_bucketAt at h
  refine zi_iconst 0 d_Ni_bucketAt_0 rfl ?_
  refine zi_istore_n [(2, .int 0), (0, .ref a0), (1, .int x1)] d_Ni_bucketAt_1 (by decide) rfl ?_
  refine zi_lo [(0, .ref a0), (1, .int x1), (2, .int 0)] [1, 2, 0] rfl ?_
  exact K_Ni_bucketAt_b2 n E S a0 x1 0 M r M'  h
theorem C_Ni_bucketAt (n : Nat) (E : zE) (S : zS) (a0 : Nat) (x1 : Int32) (M : zH) (r : Int32) (M' : zH) (h : F_Ni_bucketAt n E S a0 x1 M = some (r, M')) : zC E Y_Ni_bucketAt [.ref a0, .int x1] S M (some (.int r), S, M') :=
  zC.of (Or.inl (show plainName "NightColander$Night" = true by decide)) (Nat.le_of_ble_eq_true rfl) (trivial) (K_Ni_bucketAt n E S a0 x1 M r M' h)
theorem d_NC_bucket_0 : decode (yB Y_NC_bucket) 0 = .ok (.iload_n 1, 1) := by decide +kernel
theorem d_NC_bucket_1 : decode (yB Y_NC_bucket) 1 = .ok (.iconst 1, 1) := by decide +kernel
theorem d_NC_bucket_2 : decode (yB Y_NC_bucket) 2 = .ok (.bipush 99, 2) := by decide +kernel
theorem d_NC_bucket_4 : decode (yB Y_NC_bucket) 4 = .ok (.invokestatic 132, 3) := by decide +kernel
theorem d_NC_bucket_7 : decode (yB Y_NC_bucket) 7 = .ok (.ifCond .eq 10, 3) := by decide +kernel
theorem d_NC_bucket_10 : decode (yB Y_NC_bucket) 10 = .ok (.iload_n 2, 1) := by decide +kernel
theorem d_NC_bucket_11 : decode (yB Y_NC_bucket) 11 = .ok (.invokestatic 149, 3) := by decide +kernel
theorem d_NC_bucket_14 : decode (yB Y_NC_bucket) 14 = .ok (.ifCond .ne 9, 3) := by decide +kernel
theorem d_NC_bucket_17 : decode (yB Y_NC_bucket) 17 = .ok (.aload_n 0, 1) := by decide +kernel
theorem d_NC_bucket_18 : decode (yB Y_NC_bucket) 18 = .ok (.iconst (-1), 1) := by decide +kernel
theorem d_NC_bucket_19 : decode (yB Y_NC_bucket) 19 = .ok (.invokevirtual 136, 3) := by decide +kernel
theorem d_NC_bucket_22 : decode (yB Y_NC_bucket) 22 = .ok (.ireturn, 1) := by decide +kernel
theorem d_NC_bucket_23 : decode (yB Y_NC_bucket) 23 = .ok (.aload_n 0, 1) := by decide +kernel
theorem d_NC_bucket_24 : decode (yB Y_NC_bucket) 24 = .ok (.getfield 12, 3) := by decide +kernel
theorem d_NC_bucket_27 : decode (yB Y_NC_bucket) 27 = .ok (.iload_n 2, 1) := by decide +kernel
theorem d_NC_bucket_28 : decode (yB Y_NC_bucket) 28 = .ok (.invokevirtual 152, 3) := by decide +kernel
theorem d_NC_bucket_31 : decode (yB Y_NC_bucket) 31 = .ok (.iconst (-1), 1) := by decide +kernel
theorem d_NC_bucket_32 : decode (yB Y_NC_bucket) 32 = .ok (.if_icmp .eq 10, 3) := by decide +kernel
theorem d_NC_bucket_35 : decode (yB Y_NC_bucket) 35 = .ok (.aload_n 0, 1) := by decide +kernel
theorem d_NC_bucket_36 : decode (yB Y_NC_bucket) 36 = .ok (.bipush (-3), 2) := by decide +kernel
theorem d_NC_bucket_38 : decode (yB Y_NC_bucket) 38 = .ok (.invokevirtual 136, 3) := by decide +kernel
theorem d_NC_bucket_41 : decode (yB Y_NC_bucket) 41 = .ok (.ireturn, 1) := by decide +kernel
theorem d_NC_bucket_42 : decode (yB Y_NC_bucket) 42 = .ok (.aload_n 0, 1) := by decide +kernel
theorem d_NC_bucket_43 : decode (yB Y_NC_bucket) 43 = .ok (.getfield 12, 3) := by decide +kernel
theorem d_NC_bucket_46 : decode (yB Y_NC_bucket) 46 = .ok (.getfield 155, 3) := by decide +kernel
theorem d_NC_bucket_49 : decode (yB Y_NC_bucket) 49 = .ok (.iconst 3, 1) := by decide +kernel
theorem d_NC_bucket_50 : decode (yB Y_NC_bucket) 50 = .ok (.if_icmp .lt 10, 3) := by decide +kernel
theorem d_NC_bucket_53 : decode (yB Y_NC_bucket) 53 = .ok (.aload_n 0, 1) := by decide +kernel
theorem d_NC_bucket_54 : decode (yB Y_NC_bucket) 54 = .ok (.bipush (-5), 2) := by decide +kernel
theorem d_NC_bucket_56 : decode (yB Y_NC_bucket) 56 = .ok (.invokevirtual 136, 3) := by decide +kernel
theorem d_NC_bucket_59 : decode (yB Y_NC_bucket) 59 = .ok (.ireturn, 1) := by decide +kernel
theorem d_NC_bucket_60 : decode (yB Y_NC_bucket) 60 = .ok (.aload_n 0, 1) := by decide +kernel
theorem d_NC_bucket_61 : decode (yB Y_NC_bucket) 61 = .ok (.getfield 35, 3) := by decide +kernel
theorem d_NC_bucket_64 : decode (yB Y_NC_bucket) 64 = .ok (.invokevirtual 143, 3) := by decide +kernel
theorem d_NC_bucket_67 : decode (yB Y_NC_bucket) 67 = .ok (.aload_n 0, 1) := by decide +kernel
theorem d_NC_bucket_68 : decode (yB Y_NC_bucket) 68 = .ok (.aload_n 0, 1) := by decide +kernel
theorem d_NC_bucket_69 : decode (yB Y_NC_bucket) 69 = .ok (.getfield 12, 3) := by decide +kernel
theorem d_NC_bucket_72 : decode (yB Y_NC_bucket) 72 = .ok (.iload_n 1, 1) := by decide +kernel
theorem d_NC_bucket_73 : decode (yB Y_NC_bucket) 73 = .ok (.iload_n 2, 1) := by decide +kernel
theorem d_NC_bucket_74 : decode (yB Y_NC_bucket) 74 = .ok (.invokevirtual 158, 3) := by decide +kernel
theorem d_NC_bucket_77 : decode (yB Y_NC_bucket) 77 = .ok (.invokevirtual 146, 3) := by decide +kernel
theorem d_NC_bucket_80 : decode (yB Y_NC_bucket) 80 = .ok (.ireturn, 1) := by decide +kernel
def F_NC_bucket_b17 (n : Nat) (E : zE) (S : zS) (a0 : Nat) (M : zH) : Option (Int32 × zH) :=
  (zck S a0 10).bind fun u_1 =>
  (F_NC_refuse n E S a0 (-1) M).bind fun q_2 =>
  some (q_2.1, q_2.2)
def F_NC_bucket (n : Nat) (E : zE) (S : zS) (a0 : Nat) (x1 : Int32) (x2 : Int32) (M : zH) : Option (Int32 × zH) :=
  (F_NC_within n E S x1 1 99 M).bind fun q_3 =>
  if q_3.1 = true then
    (F_NC_isField n E S x2 q_3.2).bind fun q_5 =>
    if q_5.1 = true then
      (zgR S a0 10 0).bind fun b_7 =>
      (zck S b_7 3).bind fun u_8 =>
      (F_Ni_bucketAt n E S b_7 x2 q_5.2).bind fun q_9 =>
      if q_9.1 = (-1) then
        (zgI S q_9.2 b_7 3 11).bind fun v_11 =>
        if v_11 < 3 then
          (zgR S a0 10 5).bind fun b_13 =>
          (zck S b_13 6).bind fun u_14 =>
          (F_Pt_clear n E S b_13 q_9.2).bind fun q_15 =>
          (F_Ni_addBucket n E S b_7 x1 x2 q_15).bind fun q_16 =>
          (F_NC_accept n E S a0 q_16.1 q_16.2).bind fun q_17 =>
          some (q_17.1, q_17.2)
        else
          (F_NC_refuse n E S a0 (-5) q_9.2).bind fun q_18 =>
          some (q_18.1, q_18.2)
      else
        (F_NC_refuse n E S a0 (-3) q_9.2).bind fun q_19 =>
        some (q_19.1, q_19.2)
    else
      F_NC_bucket_b17 n E S a0 q_5.2
  else
    F_NC_bucket_b17 n E S a0 q_3.2
theorem K_NC_bucket_b17 (n : Nat) (E : zE) (S : zS) (a0 : Nat) (M : zH) (r : Int32) (M' : zH)  (h : F_NC_bucket_b17 n E S a0 M = some (r, M')) : zG E Y_NC_bucket (some (.int r), S, M') 17 [(0, .ref a0)] [] S M 0 0 := by
  unfold F_NC_bucket_b17 at h
  refine zi_aload_n 0 d_NC_bucket_17 rfl ?_
  refine zi_iconst (-1) d_NC_bucket_18 rfl ?_
  obtain ⟨u_1, eu_1, h⟩ := zbind h
  obtain ⟨q_2, eq_2, h⟩ := zbind h
  refine zo_virt (k' := 0) (n' := 0) 22 [.int (-1)] [] [.int q_2.1] zkd_10 (zck_s eu_1) (C_NC_refuse n E S a0 (-1) M q_2.1 q_2.2 eq_2) d_NC_bucket_19 tw_448 tw_445 tw_447 ts_1 tw_1 dd_NC_refuse ⟨Nat.le_of_ble_eq_true rfl, Nat.le_of_ble_eq_true rfl, Nat.le_of_ble_eq_true rfl, Nat.le_of_ble_eq_true rfl⟩ (Nat.le_of_ble_eq_true rfl) rfl rfl rfl rfl ?_
  cases h
  exact zo_ret d_NC_bucket_22 (Nat.le_of_ble_eq_true rfl) (Nat.le_of_ble_eq_true rfl) rfl
theorem K_NC_bucket (n : Nat) (E : zE) (S : zS) (a0 : Nat) (x1 : Int32) (x2 : Int32) (M : zH) (r : Int32) (M' : zH)  (h : F_NC_bucket n E S a0 x1 x2 M = some (r, M')) : zG E Y_NC_bucket (some (.int r), S, M') 0 [(0, .ref a0), (1, .int x1), (2, .int x2)] [] S M 0 0 := by
  unfold F_NC_bucket at h
  refine zi_iload_n 1 d_NC_bucket_0 rfl ?_
  refine zi_iconst 1 d_NC_bucket_1 rfl ?_
  refine zi_bipush 99 d_NC_bucket_2 rfl ?_
  obtain ⟨q_3, eq_3, h⟩ := zbind h
  refine zo_stat (k' := 0) (n' := 0) 7 [.int x1, .int 1, .int 99] [] [.int (bI q_3.1)] (C_NC_within n E S x1 1 99 M q_3.1 q_3.2 eq_3) d_NC_bucket_4 tw_399 tw_397 tw_398 tw_1 dd_NC_within ⟨Nat.le_of_ble_eq_true rfl, Nat.le_of_ble_eq_true rfl, Nat.le_of_ble_eq_true rfl, Nat.le_of_ble_eq_true rfl⟩ (Nat.le_of_ble_eq_true rfl) rfl rfl rfl rfl ?_
  refine zo_ifeqB d_NC_bucket_7 rfl 10 rfl (fun c_4 => ?_) (fun c_4 => ?_)
  · rw [if_neg c_4] at h
    refine zi_lo [(0, .ref a0)] [0] rfl ?_
    exact K_NC_bucket_b17 n E S a0 q_3.2 r M'  h
  · rw [if_pos c_4] at h
    refine zi_iload_n 2 d_NC_bucket_10 rfl ?_
    obtain ⟨q_5, eq_5, h⟩ := zbind h
    refine zo_stat (k' := 0) (n' := 0) 14 [.int x2] [] [.int (bI q_5.1)] (C_NC_isField n E S x2 q_3.2 q_5.1 q_5.2 eq_5) d_NC_bucket_11 tw_463 tw_461 tw_462 tw_1 dd_NC_isField ⟨Nat.le_of_ble_eq_true rfl, Nat.le_of_ble_eq_true rfl, Nat.le_of_ble_eq_true rfl, Nat.le_of_ble_eq_true rfl⟩ (Nat.le_of_ble_eq_true rfl) rfl rfl rfl rfl ?_
    refine zo_ifneB d_NC_bucket_14 rfl 17 rfl (fun c_6 => ?_) (fun c_6 => ?_)
    · rw [if_pos c_6] at h
      refine zi_aload_n 0 d_NC_bucket_23 rfl ?_
      obtain ⟨b_7, eb_7, h⟩ := zbind h
      refine zo_getR 27 zkd_10 0 d_NC_bucket_24 eb_7 rfl tw_332 rfl ?_
      refine zi_iload_n 2 d_NC_bucket_27 rfl ?_
      obtain ⟨u_8, eu_8, h⟩ := zbind h
      obtain ⟨q_9, eq_9, h⟩ := zbind h
      refine zo_virt (k' := 0) (n' := 0) 31 [.int x2] [] [.int q_9.1] zkd_3 (zck_s eu_8) (C_Ni_bucketAt n E S b_7 x2 q_5.2 q_9.1 q_9.2 eq_9) d_NC_bucket_28 tw_467 tw_464 tw_465 tw_466 tw_2 dd_Ni_bucketAt ⟨Nat.le_of_ble_eq_true rfl, Nat.le_of_ble_eq_true rfl, Nat.le_of_ble_eq_true rfl, Nat.le_of_ble_eq_true rfl⟩ (Nat.le_of_ble_eq_true rfl) rfl rfl rfl rfl ?_
      refine zi_iconst (-1) d_NC_bucket_31 rfl ?_
      refine zi_icmp_eq (tgt := 42) d_NC_bucket_32 rfl (fun c_10 => ?_) (fun c_10 => ?_)
      · rw [if_pos c_10] at h
        refine zi_aload_n 0 d_NC_bucket_42 rfl ?_
        refine zo_getR 46 zkd_10 0 d_NC_bucket_43 eb_7 rfl tw_332 rfl ?_
        obtain ⟨v_11, ev_11, h⟩ := zbind h
        refine zo_getI 49 zkd_3 11 d_NC_bucket_46 ev_11 rfl tw_87 rfl ?_
        refine zi_iconst 3 d_NC_bucket_49 rfl ?_
        refine zi_icmp_lt (tgt := 60) d_NC_bucket_50 rfl (fun c_12 => ?_) (fun c_12 => ?_)
        · rw [if_pos c_12] at h
          refine zi_aload_n 0 d_NC_bucket_60 rfl ?_
          obtain ⟨b_13, eb_13, h⟩ := zbind h
          refine zo_getR 64 zkd_10 5 d_NC_bucket_61 eb_13 rfl tw_337 rfl ?_
          obtain ⟨u_14, eu_14, h⟩ := zbind h
          obtain ⟨q_15, eq_15, h⟩ := zbind h
          refine zo_virt (k' := 0) (n' := 0) 67 [] [] [] zkd_6 (zck_s eu_14) (C_Pt_clear n E S b_13 q_9.2 q_15 eq_15) d_NC_bucket_64 tw_452 tw_449 tw_450 tw_451 tw_4 dd_Pt_clear ⟨Nat.le_of_ble_eq_true rfl, Nat.le_of_ble_eq_true rfl, Nat.le_of_ble_eq_true rfl, Nat.le_of_ble_eq_true rfl⟩ (Nat.le_of_ble_eq_true rfl) rfl rfl rfl rfl ?_
          refine zi_aload_n 0 d_NC_bucket_67 rfl ?_
          refine zi_aload_n 0 d_NC_bucket_68 rfl ?_
          refine zo_getR 72 zkd_10 0 d_NC_bucket_69 eb_7 rfl tw_332 rfl ?_
          refine zi_iload_n 1 d_NC_bucket_72 rfl ?_
          refine zi_iload_n 2 d_NC_bucket_73 rfl ?_
          obtain ⟨q_16, eq_16, h⟩ := zbind h
          refine zo_virt (k' := 0) (n' := 0) 77 [.int x1, .int x2] [.ref a0] [.int q_16.1, .ref a0] zkd_3 (zck_s eu_8) (C_Ni_addBucket n E S b_7 x1 x2 q_15 q_16.1 q_16.2 eq_16) d_NC_bucket_74 tw_471 tw_468 tw_469 tw_470 tw_2 dd_Ni_addBucket ⟨Nat.le_of_ble_eq_true rfl, Nat.le_of_ble_eq_true rfl, Nat.le_of_ble_eq_true rfl, Nat.le_of_ble_eq_true rfl⟩ (Nat.le_of_ble_eq_true rfl) rfl rfl rfl rfl ?_
          obtain ⟨q_17, eq_17, h⟩ := zbind h
          refine zo_virt (k' := 0) (n' := 0) 80 [.int q_16.1] [] [.int q_17.1] zkd_10 (zgR_s eb_7).1 (C_NC_accept n E S a0 q_16.1 q_16.2 q_17.1 q_17.2 eq_17) d_NC_bucket_77 tw_456 tw_453 tw_455 ts_2 tw_1 dd_NC_accept ⟨Nat.le_of_ble_eq_true rfl, Nat.le_of_ble_eq_true rfl, Nat.le_of_ble_eq_true rfl, Nat.le_of_ble_eq_true rfl⟩ (Nat.le_of_ble_eq_true rfl) rfl rfl rfl rfl ?_
          cases h
          exact zo_ret d_NC_bucket_80 (Nat.le_of_ble_eq_true rfl) (Nat.le_of_ble_eq_true rfl) rfl
        · rw [if_neg c_12] at h
          refine zi_aload_n 0 d_NC_bucket_53 rfl ?_
          refine zi_bipush (-5) d_NC_bucket_54 rfl ?_
          obtain ⟨q_18, eq_18, h⟩ := zbind h
          refine zo_virt (k' := 0) (n' := 0) 59 [.int (-5)] [] [.int q_18.1] zkd_10 (zgR_s eb_7).1 (C_NC_refuse n E S a0 (-5) q_9.2 q_18.1 q_18.2 eq_18) d_NC_bucket_56 tw_448 tw_445 tw_447 ts_1 tw_1 dd_NC_refuse ⟨Nat.le_of_ble_eq_true rfl, Nat.le_of_ble_eq_true rfl, Nat.le_of_ble_eq_true rfl, Nat.le_of_ble_eq_true rfl⟩ (Nat.le_of_ble_eq_true rfl) rfl rfl rfl rfl ?_
          cases h
          exact zo_ret d_NC_bucket_59 (Nat.le_of_ble_eq_true rfl) (Nat.le_of_ble_eq_true rfl) rfl
      · rw [if_neg c_10] at h
        refine zi_aload_n 0 d_NC_bucket_35 rfl ?_
        refine zi_bipush (-3) d_NC_bucket_36 rfl ?_
        obtain ⟨q_19, eq_19, h⟩ := zbind h
        refine zo_virt (k' := 0) (n' := 0) 41 [.int (-3)] [] [.int q_19.1] zkd_10 (zgR_s eb_7).1 (C_NC_refuse n E S a0 (-3) q_9.2 q_19.1 q_19.2 eq_19) d_NC_bucket_38 tw_448 tw_445 tw_447 ts_1 tw_1 dd_NC_refuse ⟨Nat.le_of_ble_eq_true rfl, Nat.le_of_ble_eq_true rfl, Nat.le_of_ble_eq_true rfl, Nat.le_of_ble_eq_true rfl⟩ (Nat.le_of_ble_eq_true rfl) rfl rfl rfl rfl ?_
        cases h
        exact zo_ret d_NC_bucket_41 (Nat.le_of_ble_eq_true rfl) (Nat.le_of_ble_eq_true rfl) rfl
    · rw [if_neg c_6] at h
      refine zi_lo [(0, .ref a0)] [0] rfl ?_
      exact K_NC_bucket_b17 n E S a0 q_5.2 r M'  h
theorem C_NC_bucket (n : Nat) (E : zE) (S : zS) (a0 : Nat) (x1 : Int32) (x2 : Int32) (M : zH) (r : Int32) (M' : zH) (h : F_NC_bucket n E S a0 x1 x2 M = some (r, M')) : zC E Y_NC_bucket [.ref a0, .int x1, .int x2] S M (some (.int r), S, M') :=
  zC.of (Or.inl (show plainName "NightColander" = true by decide)) (Nat.le_of_ble_eq_true rfl) (trivial) (K_NC_bucket n E S a0 x1 x2 M r M' h)
