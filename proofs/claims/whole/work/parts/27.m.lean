/-! METHODS (printed by gen/build.py): Pt_add De_perform Ni_allLevels Ru_findWords Ru_run NC_orders -/
theorem d_Pt_add_0 : decode (yB Y_Pt_add) 0 = .ok (.aload_n 0, 1) := by decide +kernel
theorem d_Pt_add_1 : decode (yB Y_Pt_add) 1 = .ok (.getfield 15, 3) := by decide +kernel
theorem d_Pt_add_4 : decode (yB Y_Pt_add) 4 = .ok (.bipush 16, 2) := by decide +kernel
theorem d_Pt_add_6 : decode (yB Y_Pt_add) 6 = .ok (.if_icmp .lt 31, 3) := by decide +kernel
theorem d_Pt_add_9 : decode (yB Y_Pt_add) 9 = .ok (.aload_n 0, 1) := by decide +kernel
theorem d_Pt_add_10 : decode (yB Y_Pt_add) 10 = .ok (.getfield 11, 3) := by decide +kernel
theorem d_Pt_add_13 : decode (yB Y_Pt_add) 13 = .ok (.bipush 6, 2) := by decide +kernel
theorem d_Pt_add_15 : decode (yB Y_Pt_add) 15 = .ok (.aload_n 0, 1) := by decide +kernel
theorem d_Pt_add_16 : decode (yB Y_Pt_add) 16 = .ok (.getfield 11, 3) := by decide +kernel
theorem d_Pt_add_19 : decode (yB Y_Pt_add) 19 = .ok (.iconst 0, 1) := by decide +kernel
theorem d_Pt_add_20 : decode (yB Y_Pt_add) 20 = .ok (.aload_n 0, 1) := by decide +kernel
theorem d_Pt_add_21 : decode (yB Y_Pt_add) 21 = .ok (.getfield 11, 3) := by decide +kernel
theorem d_Pt_add_24 : decode (yB Y_Pt_add) 24 = .ok (.arraylength, 1) := by decide +kernel
theorem d_Pt_add_25 : decode (yB Y_Pt_add) 25 = .ok (.bipush 6, 2) := by decide +kernel
theorem d_Pt_add_27 : decode (yB Y_Pt_add) 27 = .ok (.isub, 1) := by decide +kernel
theorem d_Pt_add_28 : decode (yB Y_Pt_add) 28 = .ok (.invokestatic 19, 3) := by decide +kernel
theorem d_Pt_add_31 : decode (yB Y_Pt_add) 31 = .ok (.aload_n 0, 1) := by decide +kernel
theorem d_Pt_add_32 : decode (yB Y_Pt_add) 32 = .ok (.bipush 15, 2) := by decide +kernel
theorem d_Pt_add_34 : decode (yB Y_Pt_add) 34 = .ok (.putfield 15, 3) := by decide +kernel
theorem d_Pt_add_37 : decode (yB Y_Pt_add) 37 = .ok (.aload_n 0, 1) := by decide +kernel
theorem d_Pt_add_38 : decode (yB Y_Pt_add) 38 = .ok (.getfield 15, 3) := by decide +kernel
theorem d_Pt_add_41 : decode (yB Y_Pt_add) 41 = .ok (.bipush 6, 2) := by decide +kernel
theorem d_Pt_add_43 : decode (yB Y_Pt_add) 43 = .ok (.imul, 1) := by decide +kernel
theorem d_Pt_add_44 : decode (yB Y_Pt_add) 44 = .ok (.istore 5, 2) := by decide +kernel
theorem d_Pt_add_46 : decode (yB Y_Pt_add) 46 = .ok (.aload_n 0, 1) := by decide +kernel
theorem d_Pt_add_47 : decode (yB Y_Pt_add) 47 = .ok (.getfield 11, 3) := by decide +kernel
theorem d_Pt_add_50 : decode (yB Y_Pt_add) 50 = .ok (.iload 5, 2) := by decide +kernel
theorem d_Pt_add_52 : decode (yB Y_Pt_add) 52 = .ok (.iload_n 1, 1) := by decide +kernel
theorem d_Pt_add_53 : decode (yB Y_Pt_add) 53 = .ok (.iastore, 1) := by decide +kernel
theorem d_Pt_add_54 : decode (yB Y_Pt_add) 54 = .ok (.aload_n 0, 1) := by decide +kernel
theorem d_Pt_add_55 : decode (yB Y_Pt_add) 55 = .ok (.getfield 11, 3) := by decide +kernel
theorem d_Pt_add_58 : decode (yB Y_Pt_add) 58 = .ok (.iload 5, 2) := by decide +kernel
theorem d_Pt_add_60 : decode (yB Y_Pt_add) 60 = .ok (.iconst 1, 1) := by decide +kernel
theorem d_Pt_add_61 : decode (yB Y_Pt_add) 61 = .ok (.iadd, 1) := by decide +kernel
theorem d_Pt_add_62 : decode (yB Y_Pt_add) 62 = .ok (.iload_n 2, 1) := by decide +kernel
theorem d_Pt_add_63 : decode (yB Y_Pt_add) 63 = .ok (.iastore, 1) := by decide +kernel
theorem d_Pt_add_64 : decode (yB Y_Pt_add) 64 = .ok (.aload_n 0, 1) := by decide +kernel
theorem d_Pt_add_65 : decode (yB Y_Pt_add) 65 = .ok (.getfield 11, 3) := by decide +kernel
theorem d_Pt_add_68 : decode (yB Y_Pt_add) 68 = .ok (.iload 5, 2) := by decide +kernel
theorem d_Pt_add_70 : decode (yB Y_Pt_add) 70 = .ok (.iconst 2, 1) := by decide +kernel
theorem d_Pt_add_71 : decode (yB Y_Pt_add) 71 = .ok (.iadd, 1) := by decide +kernel
theorem d_Pt_add_72 : decode (yB Y_Pt_add) 72 = .ok (.iload_n 3, 1) := by decide +kernel
theorem d_Pt_add_73 : decode (yB Y_Pt_add) 73 = .ok (.iastore, 1) := by decide +kernel
theorem d_Pt_add_74 : decode (yB Y_Pt_add) 74 = .ok (.aload 4, 2) := by decide +kernel
theorem d_Pt_add_76 : decode (yB Y_Pt_add) 76 = .ok (.iconst 0, 1) := by decide +kernel
theorem d_Pt_add_77 : decode (yB Y_Pt_add) 77 = .ok (.aload_n 0, 1) := by decide +kernel
theorem d_Pt_add_78 : decode (yB Y_Pt_add) 78 = .ok (.getfield 11, 3) := by decide +kernel
theorem d_Pt_add_81 : decode (yB Y_Pt_add) 81 = .ok (.iload 5, 2) := by decide +kernel
theorem d_Pt_add_83 : decode (yB Y_Pt_add) 83 = .ok (.iconst 3, 1) := by decide +kernel
theorem d_Pt_add_84 : decode (yB Y_Pt_add) 84 = .ok (.iadd, 1) := by decide +kernel
theorem d_Pt_add_85 : decode (yB Y_Pt_add) 85 = .ok (.iconst 3, 1) := by decide +kernel
theorem d_Pt_add_86 : decode (yB Y_Pt_add) 86 = .ok (.invokestatic 19, 3) := by decide +kernel
theorem d_Pt_add_89 : decode (yB Y_Pt_add) 89 = .ok (.aload_n 0, 1) := by decide +kernel
theorem d_Pt_add_90 : decode (yB Y_Pt_add) 90 = .ok (.dup, 1) := by decide +kernel
theorem d_Pt_add_91 : decode (yB Y_Pt_add) 91 = .ok (.getfield 15, 3) := by decide +kernel
theorem d_Pt_add_94 : decode (yB Y_Pt_add) 94 = .ok (.iconst 1, 1) := by decide +kernel
theorem d_Pt_add_95 : decode (yB Y_Pt_add) 95 = .ok (.iadd, 1) := by decide +kernel
theorem d_Pt_add_96 : decode (yB Y_Pt_add) 96 = .ok (.putfield 15, 3) := by decide +kernel
theorem d_Pt_add_99 : decode (yB Y_Pt_add) 99 = .ok (.return_, 1) := by decide +kernel
def F_Pt_add_b37 (n : Nat) (E : zE) (S : zS) (a0 : Nat) (x1 : Int32) (x2 : Int32) (x3 : Int32) (a4 : Nat) (M : zH) : Option (zH) :=
  (zgI S M a0 6 1).bind fun v_1 =>
  (zgR S a0 6 0).bind fun b_2 =>
  (zstI S M b_2 (v_1 * 6) x1).bind fun m_3 =>
  (zstI S m_3 b_2 ((v_1 * 6) + 1) x2).bind fun m_4 =>
  (zstI S m_4 b_2 ((v_1 * 6) + 2) x3).bind fun m_5 =>
  (zcpy S m_5 a4 0 b_2 ((v_1 * 6) + 3) 3).bind fun m_6 =>
  (zgI S m_6 a0 6 1).bind fun v_7 =>
  (zpI S m_6 a0 6 1 (v_7 + 1)).bind fun m_8 =>
  some (m_8)
def F_Pt_add (n : Nat) (E : zE) (S : zS) (a0 : Nat) (x1 : Int32) (x2 : Int32) (x3 : Int32) (a4 : Nat) (M : zH) : Option (zH) :=
  (zgI S M a0 6 1).bind fun v_9 =>
  if v_9 < 16 then
    F_Pt_add_b37 n E S a0 x1 x2 x3 a4 M
  else
    (zgR S a0 6 0).bind fun b_11 =>
    (zlen S 12 b_11).bind fun v_12 =>
    (zcpy S M b_11 6 b_11 0 (v_12 - 6)).bind fun m_13 =>
    (zpI S m_13 a0 6 1 15).bind fun m_14 =>
    F_Pt_add_b37 n E S a0 x1 x2 x3 a4 m_14
theorem K_Pt_add_b37 (n : Nat) (E : zE) (S : zS) (a0 : Nat) (x1 : Int32) (x2 : Int32) (x3 : Int32) (a4 : Nat) (M : zH) (M' : zH)  (h : F_Pt_add_b37 n E S a0 x1 x2 x3 a4 M = some M') : zG E Y_Pt_add (none, S, M') 37 [(0, .ref a0), (1, .int x1), (2, .int x2), (3, .int x3), (4, .ref a4)] [] S M 0 0 := by
  unfold F_Pt_add_b37 at h
  refine zi_aload_n 0 d_Pt_add_37 rfl ?_
  obtain ⟨v_1, ev_1, h⟩ := zbind h
  refine zo_getI 41 zkd_6 1 d_Pt_add_38 ev_1 rfl tw_139 rfl ?_
  refine zi_bipush 6 d_Pt_add_41 rfl ?_
  refine zi_imul d_Pt_add_43 ?_
  refine zi_istore [(5, .int (v_1 * 6)), (0, .ref a0), (1, .int x1), (2, .int x2), (3, .int x3), (4, .ref a4)] d_Pt_add_44 (by decide) rfl ?_
  refine zi_aload_n 1 d_Pt_add_46 rfl ?_
  obtain ⟨b_2, eb_2, h⟩ := zbind h
  refine zo_getR 50 zkd_6 0 d_Pt_add_47 eb_2 rfl tw_138 rfl ?_
  refine zi_iload 0 d_Pt_add_50 rfl ?_
  refine zi_iload_n 2 d_Pt_add_52 rfl ?_
  obtain ⟨m_3, em_3, h⟩ := zbind h
  refine zo_iast 54 d_Pt_add_53 em_3 rfl ?_
  refine zi_aload_n 1 d_Pt_add_54 rfl ?_
  refine zo_getR 58 zkd_6 0 d_Pt_add_55 eb_2 rfl tw_138 rfl ?_
  refine zi_iload 0 d_Pt_add_58 rfl ?_
  refine zi_iconst 1 d_Pt_add_60 rfl ?_
  refine zi_iadd d_Pt_add_61 ?_
  refine zi_iload_n 3 d_Pt_add_62 rfl ?_
  obtain ⟨m_4, em_4, h⟩ := zbind h
  refine zo_iast 64 d_Pt_add_63 em_4 rfl ?_
  refine zi_aload_n 1 d_Pt_add_64 rfl ?_
  refine zo_getR 68 zkd_6 0 d_Pt_add_65 eb_2 rfl tw_138 rfl ?_
  refine zi_iload 0 d_Pt_add_68 rfl ?_
  refine zi_iconst 2 d_Pt_add_70 rfl ?_
  refine zi_iadd d_Pt_add_71 ?_
  refine zi_iload_n 4 d_Pt_add_72 rfl ?_
  obtain ⟨m_5, em_5, h⟩ := zbind h
  refine zo_iast 74 d_Pt_add_73 em_5 rfl ?_
  refine zi_aload 5 d_Pt_add_74 rfl ?_
  refine zi_iconst 0 d_Pt_add_76 rfl ?_
  refine zi_aload_n 1 d_Pt_add_77 rfl ?_
  refine zo_getR 81 zkd_6 0 d_Pt_add_78 eb_2 rfl tw_138 rfl ?_
  refine zi_iload 0 d_Pt_add_81 rfl ?_
  refine zi_iconst 3 d_Pt_add_83 rfl ?_
  refine zi_iadd d_Pt_add_84 ?_
  refine zi_iconst 3 d_Pt_add_85 rfl ?_
  obtain ⟨m_6, em_6, h⟩ := zbind h
  refine zo_cpy 89 d_Pt_add_86 em_6 tw_871 zcpw rfl (by decide) (Nat.le_of_ble_eq_true rfl) ?_
  refine zi_aload_n 1 d_Pt_add_89 rfl ?_
  refine zi_dup d_Pt_add_90 rfl ?_
  obtain ⟨v_7, ev_7, h⟩ := zbind h
  refine zo_getI 94 zkd_6 1 d_Pt_add_91 ev_7 rfl tw_139 rfl ?_
  refine zi_iconst 1 d_Pt_add_94 rfl ?_
  refine zi_iadd d_Pt_add_95 ?_
  obtain ⟨m_8, em_8, h⟩ := zbind h
  refine zo_putI 99 zkd_6 1 d_Pt_add_96 em_8 rfl rfl rfl tw_139 rfl ?_
  cases h
  exact zo_ret d_Pt_add_99 (Nat.le_of_ble_eq_true rfl) (Nat.le_of_ble_eq_true rfl) rfl
theorem K_Pt_add (n : Nat) (E : zE) (S : zS) (a0 : Nat) (x1 : Int32) (x2 : Int32) (x3 : Int32) (a4 : Nat) (M : zH) (M' : zH)  (h : F_Pt_add n E S a0 x1 x2 x3 a4 M = some M') : zG E Y_Pt_add (none, S, M') 0 [(0, .ref a0), (1, .int x1), (2, .int x2), (3, .int x3), (4, .ref a4)] [] S M 0 0 := by
  unfold F_Pt_add at h
  refine zi_aload_n 0 d_Pt_add_0 rfl ?_
  obtain ⟨v_9, ev_9, h⟩ := zbind h
  refine zo_getI 4 zkd_6 1 d_Pt_add_1 ev_9 rfl tw_139 rfl ?_
  refine zi_bipush 16 d_Pt_add_4 rfl ?_
  refine zi_icmp_lt (tgt := 37) d_Pt_add_6 rfl (fun c_10 => ?_) (fun c_10 => ?_)
  · rw [if_pos c_10] at h
    refine zi_lo [(0, .ref a0), (1, .int x1), (2, .int x2), (3, .int x3), (4, .ref a4)] [0, 1, 2, 3, 4] rfl ?_
    exact K_Pt_add_b37 n E S a0 x1 x2 x3 a4 M M'  h
  · rw [if_neg c_10] at h
    refine zi_aload_n 0 d_Pt_add_9 rfl ?_
    obtain ⟨b_11, eb_11, h⟩ := zbind h
    refine zo_getR 13 zkd_6 0 d_Pt_add_10 eb_11 rfl tw_138 rfl ?_
    refine zi_bipush 6 d_Pt_add_13 rfl ?_
    refine zi_aload_n 0 d_Pt_add_15 rfl ?_
    refine zo_getR 19 zkd_6 0 d_Pt_add_16 eb_11 rfl tw_138 rfl ?_
    refine zi_iconst 0 d_Pt_add_19 rfl ?_
    refine zi_aload_n 0 d_Pt_add_20 rfl ?_
    refine zo_getR 24 zkd_6 0 d_Pt_add_21 eb_11 rfl tw_138 rfl ?_
    obtain ⟨v_12, ev_12, h⟩ := zbind h
    refine zo_alen 25 d_Pt_add_24 ev_12 (by decide) rfl ?_
    refine zi_bipush 6 d_Pt_add_25 rfl ?_
    refine zi_isub d_Pt_add_27 ?_
    obtain ⟨m_13, em_13, h⟩ := zbind h
    refine zo_cpy 31 d_Pt_add_28 em_13 tw_871 zcpw rfl (by decide) (Nat.le_of_ble_eq_true rfl) ?_
    refine zi_aload_n 0 d_Pt_add_31 rfl ?_
    refine zi_bipush 15 d_Pt_add_32 rfl ?_
    obtain ⟨m_14, em_14, h⟩ := zbind h
    refine zo_putI 37 zkd_6 1 d_Pt_add_34 em_14 rfl rfl rfl tw_139 rfl ?_
    refine zi_lo [(0, .ref a0), (1, .int x1), (2, .int x2), (3, .int x3), (4, .ref a4)] [0, 1, 2, 3, 4] rfl ?_
    exact K_Pt_add_b37 n E S a0 x1 x2 x3 a4 m_14 M'  h
theorem C_Pt_add (n : Nat) (E : zE) (S : zS) (a0 : Nat) (x1 : Int32) (x2 : Int32) (x3 : Int32) (a4 : Nat) (M : zH) (M' : zH) (h : F_Pt_add n E S a0 x1 x2 x3 a4 M = some M') : zC E Y_Pt_add [.ref a0, .int x1, .int x2, .int x3, .ref a4] S M (none, S, M') :=
  zC.of (Or.inl (show plainName "NightColander$Past" = true by decide)) (Nat.le_of_ble_eq_true rfl) (trivial) (K_Pt_add n E S a0 x1 x2 x3 a4 M M' h)
theorem d_De_perform_0 : decode (yB Y_De_perform) 0 = .ok (.iload_n 3, 1) := by decide +kernel
theorem d_De_perform_1 : decode (yB Y_De_perform) 1 = .ok (.iconst 2, 1) := by decide +kernel
theorem d_De_perform_2 : decode (yB Y_De_perform) 2 = .ok (.if_icmp .ne 10, 3) := by decide +kernel
theorem d_De_perform_5 : decode (yB Y_De_perform) 5 = .ok (.aload_n 1, 1) := by decide +kernel
theorem d_De_perform_6 : decode (yB Y_De_perform) 6 = .ok (.getfield 15, 3) := by decide +kernel
theorem d_De_perform_9 : decode (yB Y_De_perform) 9 = .ok (.goto 7, 3) := by decide +kernel
theorem d_De_perform_12 : decode (yB Y_De_perform) 12 = .ok (.aload_n 1, 1) := by decide +kernel
theorem d_De_perform_13 : decode (yB Y_De_perform) 13 = .ok (.getfield 21, 3) := by decide +kernel
theorem d_De_perform_16 : decode (yB Y_De_perform) 16 = .ok (.astore 6, 2) := by decide +kernel
theorem d_De_perform_18 : decode (yB Y_De_perform) 18 = .ok (.aload_n 0, 1) := by decide +kernel
theorem d_De_perform_19 : decode (yB Y_De_perform) 19 = .ok (.aload_n 1, 1) := by decide +kernel
theorem d_De_perform_20 : decode (yB Y_De_perform) 20 = .ok (.iload_n 3, 1) := by decide +kernel
theorem d_De_perform_21 : decode (yB Y_De_perform) 21 = .ok (.iload 4, 2) := by decide +kernel
theorem d_De_perform_23 : decode (yB Y_De_perform) 23 = .ok (.iload 5, 2) := by decide +kernel
theorem d_De_perform_25 : decode (yB Y_De_perform) 25 = .ok (.invokevirtual 24, 3) := by decide +kernel
theorem d_De_perform_28 : decode (yB Y_De_perform) 28 = .ok (.istore 7, 2) := by decide +kernel
theorem d_De_perform_30 : decode (yB Y_De_perform) 30 = .ok (.iload 7, 2) := by decide +kernel
theorem d_De_perform_32 : decode (yB Y_De_perform) 32 = .ok (.ifCond .eq 6, 3) := by decide +kernel
theorem d_De_perform_35 : decode (yB Y_De_perform) 35 = .ok (.iload 7, 2) := by decide +kernel
theorem d_De_perform_37 : decode (yB Y_De_perform) 37 = .ok (.ireturn, 1) := by decide +kernel
theorem d_De_perform_38 : decode (yB Y_De_perform) 38 = .ok (.aload_n 2, 1) := by decide +kernel
theorem d_De_perform_39 : decode (yB Y_De_perform) 39 = .ok (.iload_n 3, 1) := by decide +kernel
theorem d_De_perform_40 : decode (yB Y_De_perform) 40 = .ok (.iload 4, 2) := by decide +kernel
theorem d_De_perform_42 : decode (yB Y_De_perform) 42 = .ok (.iload 5, 2) := by decide +kernel
theorem d_De_perform_44 : decode (yB Y_De_perform) 44 = .ok (.aload 6, 2) := by decide +kernel
theorem d_De_perform_46 : decode (yB Y_De_perform) 46 = .ok (.invokevirtual 28, 3) := by decide +kernel
theorem d_De_perform_49 : decode (yB Y_De_perform) 49 = .ok (.iload_n 3, 1) := by decide +kernel
theorem d_De_perform_50 : decode (yB Y_De_perform) 50 = .ok (.tableswitch 61 0 2 #[26, 39, 52], 26) := by decide +kernel
theorem d_De_perform_76 : decode (yB Y_De_perform) 76 = .ok (.aload_n 1, 1) := by decide +kernel
theorem d_De_perform_77 : decode (yB Y_De_perform) 77 = .ok (.iload 5, 2) := by decide +kernel
theorem d_De_perform_79 : decode (yB Y_De_perform) 79 = .ok (.bipush 8, 2) := by decide +kernel
theorem d_De_perform_81 : decode (yB Y_De_perform) 81 = .ok (.imul, 1) := by decide +kernel
theorem d_De_perform_82 : decode (yB Y_De_perform) 82 = .ok (.iload 4, 2) := by decide +kernel
theorem d_De_perform_84 : decode (yB Y_De_perform) 84 = .ok (.iadd, 1) := by decide +kernel
theorem d_De_perform_85 : decode (yB Y_De_perform) 85 = .ok (.invokestatic 34, 3) := by decide +kernel
theorem d_De_perform_88 : decode (yB Y_De_perform) 88 = .ok (.ireturn, 1) := by decide +kernel
theorem d_De_perform_89 : decode (yB Y_De_perform) 89 = .ok (.aload_n 1, 1) := by decide +kernel
theorem d_De_perform_90 : decode (yB Y_De_perform) 90 = .ok (.iload 5, 2) := by decide +kernel
theorem d_De_perform_92 : decode (yB Y_De_perform) 92 = .ok (.bipush 8, 2) := by decide +kernel
theorem d_De_perform_94 : decode (yB Y_De_perform) 94 = .ok (.imul, 1) := by decide +kernel
theorem d_De_perform_95 : decode (yB Y_De_perform) 95 = .ok (.iload 4, 2) := by decide +kernel
theorem d_De_perform_97 : decode (yB Y_De_perform) 97 = .ok (.iadd, 1) := by decide +kernel
theorem d_De_perform_98 : decode (yB Y_De_perform) 98 = .ok (.invokestatic 38, 3) := by decide +kernel
theorem d_De_perform_101 : decode (yB Y_De_perform) 101 = .ok (.ireturn, 1) := by decide +kernel
theorem d_De_perform_102 : decode (yB Y_De_perform) 102 = .ok (.aload_n 1, 1) := by decide +kernel
theorem d_De_perform_103 : decode (yB Y_De_perform) 103 = .ok (.iload 4, 2) := by decide +kernel
theorem d_De_perform_105 : decode (yB Y_De_perform) 105 = .ok (.iload 5, 2) := by decide +kernel
theorem d_De_perform_107 : decode (yB Y_De_perform) 107 = .ok (.invokestatic 41, 3) := by decide +kernel
theorem d_De_perform_110 : decode (yB Y_De_perform) 110 = .ok (.ireturn, 1) := by decide +kernel
theorem d_De_perform_111 : decode (yB Y_De_perform) 111 = .ok (.aload_n 0, 1) := by decide +kernel
theorem d_De_perform_112 : decode (yB Y_De_perform) 112 = .ok (.aload_n 1, 1) := by decide +kernel
theorem d_De_perform_113 : decode (yB Y_De_perform) 113 = .ok (.invokevirtual 45, 3) := by decide +kernel
theorem d_De_perform_116 : decode (yB Y_De_perform) 116 = .ok (.ireturn, 1) := by decide +kernel
def F_De_perform_b16 (n : Nat) (E : zE) (S : zS) (a0 : Nat) (a1 : Nat) (a2 : Nat) (x3 : Int32) (x4 : Int32) (x5 : Int32) (u0 : Nat) (M : zH) : Option (Int32 × zH) :=
  (zck S a0 0).bind fun u_1 =>
  (F_De_refusalOf n E S a0 a1 x3 x4 x5 M).bind fun q_2 =>
  if q_2.1 = 0 then
    (zck S a2 6).bind fun u_4 =>
    (F_Pt_add n E S a2 x3 x4 x5 u0 q_2.2).bind fun q_5 =>
    if x3 = 0 then
      (F_De_changeBlock n E S a1 ((x5 * 8) + x4) q_5).bind fun q_7 =>
      some (q_7.1, q_7.2)
    else
    if x3 = 1 then
      (F_De_widen n E S a1 ((x5 * 8) + x4) q_5).bind fun q_9 =>
      some (q_9.1, q_9.2)
    else
    if x3 = 2 then
      (F_De_move n E S a1 x4 x5 q_5).bind fun q_11 =>
      some (q_11.1, q_11.2)
    else
      (F_De_letHourPass n E S a0 a1 q_5).bind fun q_12 =>
      some (q_12.1, q_12.2)
  else
    some (q_2.1, q_2.2)
def F_De_perform (n : Nat) (E : zE) (S : zS) (a0 : Nat) (a1 : Nat) (a2 : Nat) (x3 : Int32) (x4 : Int32) (x5 : Int32) (M : zH) : Option (Int32 × zH) :=
  if x3 = 2 then
    (zgR S a1 3 5).bind fun b_14 =>
    F_De_perform_b16 n E S a0 a1 a2 x3 x4 x5 b_14 M
  else
    (zgR S a1 3 4).bind fun b_15 =>
    F_De_perform_b16 n E S a0 a1 a2 x3 x4 x5 b_15 M
theorem K_De_perform_b16 (n : Nat) (E : zE) (S : zS) (a0 : Nat) (a1 : Nat) (a2 : Nat) (x3 : Int32) (x4 : Int32) (x5 : Int32) (u0 : Nat) (M : zH) (r : Int32) (M' : zH)  (h : F_De_perform_b16 n E S a0 a1 a2 x3 x4 x5 u0 M = some (r, M')) : zG E Y_De_perform (some (.int r), S, M') 16 [(0, .ref a0), (1, .ref a1), (2, .ref a2), (3, .int x3), (4, .int x4), (5, .int x5)] [.ref u0] S M 0 0 := by
  unfold F_De_perform_b16 at h
  refine zi_astore [(6, .ref u0), (0, .ref a0), (1, .ref a1), (2, .ref a2), (3, .int x3), (4, .int x4), (5, .int x5)] d_De_perform_16 (by decide) rfl ?_
  refine zi_aload_n 1 d_De_perform_18 rfl ?_
  refine zi_aload_n 2 d_De_perform_19 rfl ?_
  refine zi_iload_n 4 d_De_perform_20 rfl ?_
  refine zi_iload 5 d_De_perform_21 rfl ?_
  refine zi_iload 6 d_De_perform_23 rfl ?_
  obtain ⟨u_1, eu_1, h⟩ := zbind h
  obtain ⟨q_2, eq_2, h⟩ := zbind h
  refine zo_virt (k' := 0) (n' := 0) 28 [.ref a1, .int x3, .int x4, .int x5] [] [.int q_2.1] zkd_0 (zck_s eu_1) (C_De_refusalOf n E S a0 a1 x3 x4 x5 M q_2.1 q_2.2 eq_2) d_De_perform_25 tw_896 tw_893 tw_895 ts_22 tw_10 dd_De_refusalOf ⟨Nat.le_of_ble_eq_true rfl, Nat.le_of_ble_eq_true rfl, Nat.le_of_ble_eq_true rfl, Nat.le_of_ble_eq_true rfl⟩ (Nat.le_of_ble_eq_true rfl) rfl rfl rfl rfl ?_
  refine zi_istore [(7, .int q_2.1), (6, .ref u0), (0, .ref a0), (1, .ref a1), (2, .ref a2), (3, .int x3), (4, .int x4), (5, .int x5)] d_De_perform_28 (by decide) rfl ?_
  refine zi_iload 0 d_De_perform_30 rfl ?_
  refine zi_if_eq (tgt := 38) d_De_perform_32 rfl (fun c_3 => ?_) (fun c_3 => ?_)
  · rw [if_pos c_3] at h
    refine zi_aload_n 4 d_De_perform_38 rfl ?_
    refine zi_iload_n 5 d_De_perform_39 rfl ?_
    refine zi_iload 6 d_De_perform_40 rfl ?_
    refine zi_iload 7 d_De_perform_42 rfl ?_
    refine zi_aload 1 d_De_perform_44 rfl ?_
    obtain ⟨u_4, eu_4, h⟩ := zbind h
    obtain ⟨q_5, eq_5, h⟩ := zbind h
    refine zo_virt (k' := 0) (n' := 0) 49 [.int x3, .int x4, .int x5, .ref u0] [] [] zkd_6 (zck_s eu_4) (C_Pt_add n E S a2 x3 x4 x5 u0 q_2.2 q_5 eq_5) d_De_perform_46 tw_906 tw_903 tw_904 tw_905 tw_4 dd_Pt_add ⟨Nat.le_of_ble_eq_true rfl, Nat.le_of_ble_eq_true rfl, Nat.le_of_ble_eq_true rfl, Nat.le_of_ble_eq_true rfl⟩ (Nat.le_of_ble_eq_true rfl) rfl rfl rfl rfl ?_
    refine zi_iload_n 5 d_De_perform_49 rfl ?_
    by_cases c_6 : x3 = 0
    · rw [if_pos c_6] at h
      refine zo_tab (tgt := 76) 0 d_De_perform_50 c_6 (by decide) (by decide) rfl rfl ?_
      refine zi_aload_n 3 d_De_perform_76 rfl ?_
      refine zi_iload 7 d_De_perform_77 rfl ?_
      refine zi_bipush 8 d_De_perform_79 rfl ?_
      refine zi_imul d_De_perform_81 ?_
      refine zi_iload 6 d_De_perform_82 rfl ?_
      refine zi_iadd d_De_perform_84 ?_
      obtain ⟨q_7, eq_7, h⟩ := zbind h
      refine zo_stat (k' := 0) (n' := 0) 88 [.ref a1, .int ((x5 * 8) + x4)] [] [.int q_7.1] (C_De_changeBlock n E S a1 ((x5 * 8) + x4) q_5 q_7.1 q_7.2 eq_7) d_De_perform_85 tw_909 tw_907 tw_908 tw_10 dd_De_changeBlock ⟨Nat.le_of_ble_eq_true rfl, Nat.le_of_ble_eq_true rfl, Nat.le_of_ble_eq_true rfl, Nat.le_of_ble_eq_true rfl⟩ (Nat.le_of_ble_eq_true rfl) rfl rfl rfl rfl ?_
      cases h
      exact zo_ret d_De_perform_88 (Nat.le_of_ble_eq_true rfl) (Nat.le_of_ble_eq_true rfl) rfl
    rw [if_neg c_6] at h
    by_cases c_8 : x3 = 1
    · rw [if_pos c_8] at h
      refine zo_tab (tgt := 89) 1 d_De_perform_50 c_8 (by decide) (by decide) rfl rfl ?_
      refine zi_aload_n 3 d_De_perform_89 rfl ?_
      refine zi_iload 7 d_De_perform_90 rfl ?_
      refine zi_bipush 8 d_De_perform_92 rfl ?_
      refine zi_imul d_De_perform_94 ?_
      refine zi_iload 6 d_De_perform_95 rfl ?_
      refine zi_iadd d_De_perform_97 ?_
      obtain ⟨q_9, eq_9, h⟩ := zbind h
      refine zo_stat (k' := 0) (n' := 0) 101 [.ref a1, .int ((x5 * 8) + x4)] [] [.int q_9.1] (C_De_widen n E S a1 ((x5 * 8) + x4) q_5 q_9.1 q_9.2 eq_9) d_De_perform_98 tw_912 tw_910 tw_911 tw_10 dd_De_widen ⟨Nat.le_of_ble_eq_true rfl, Nat.le_of_ble_eq_true rfl, Nat.le_of_ble_eq_true rfl, Nat.le_of_ble_eq_true rfl⟩ (Nat.le_of_ble_eq_true rfl) rfl rfl rfl rfl ?_
      cases h
      exact zo_ret d_De_perform_101 (Nat.le_of_ble_eq_true rfl) (Nat.le_of_ble_eq_true rfl) rfl
    rw [if_neg c_8] at h
    by_cases c_10 : x3 = 2
    · rw [if_pos c_10] at h
      refine zo_tab (tgt := 102) 2 d_De_perform_50 c_10 (by decide) (by decide) rfl rfl ?_
      refine zi_aload_n 3 d_De_perform_102 rfl ?_
      refine zi_iload 6 d_De_perform_103 rfl ?_
      refine zi_iload 7 d_De_perform_105 rfl ?_
      obtain ⟨q_11, eq_11, h⟩ := zbind h
      refine zo_stat (k' := 0) (n' := 0) 110 [.ref a1, .int x4, .int x5] [] [.int q_11.1] (C_De_move n E S a1 x4 x5 q_5 q_11.1 q_11.2 eq_11) d_De_perform_107 tw_915 tw_913 tw_914 tw_10 dd_De_move ⟨Nat.le_of_ble_eq_true rfl, Nat.le_of_ble_eq_true rfl, Nat.le_of_ble_eq_true rfl, Nat.le_of_ble_eq_true rfl⟩ (Nat.le_of_ble_eq_true rfl) rfl rfl rfl rfl ?_
      cases h
      exact zo_ret d_De_perform_110 (Nat.le_of_ble_eq_true rfl) (Nat.le_of_ble_eq_true rfl) rfl
    rw [if_neg c_10] at h
    refine zo_tabP (tgt := 111) 0 3 d_De_perform_50 rfl rfl (fun j hj => by match j, hj with | 0, _ => exact c_6  | 1, _ => exact c_8  | 2, _ => exact c_10 | j + 3, hj => exact absurd hj (by omega)) rfl ?_
    refine zi_aload_n 2 d_De_perform_111 rfl ?_
    refine zi_aload_n 3 d_De_perform_112 rfl ?_
    obtain ⟨q_12, eq_12, h⟩ := zbind h
    refine zo_virt (k' := 0) (n' := 0) 116 [.ref a1] [] [.int q_12.1] zkd_0 (zck_s eu_1) (C_De_letHourPass n E S a0 a1 q_5 q_12.1 q_12.2 eq_12) d_De_perform_113 tw_919 tw_916 tw_918 ts_23 tw_10 dd_De_letHourPass ⟨Nat.le_of_ble_eq_true rfl, Nat.le_of_ble_eq_true rfl, Nat.le_of_ble_eq_true rfl, Nat.le_of_ble_eq_true rfl⟩ (Nat.le_of_ble_eq_true rfl) rfl rfl rfl rfl ?_
    cases h
    exact zo_ret d_De_perform_116 (Nat.le_of_ble_eq_true rfl) (Nat.le_of_ble_eq_true rfl) rfl
  · rw [if_neg c_3] at h
    refine zi_iload 0 d_De_perform_35 rfl ?_
    cases h
    exact zo_ret d_De_perform_37 (Nat.le_of_ble_eq_true rfl) (Nat.le_of_ble_eq_true rfl) rfl
theorem K_De_perform (n : Nat) (E : zE) (S : zS) (a0 : Nat) (a1 : Nat) (a2 : Nat) (x3 : Int32) (x4 : Int32) (x5 : Int32) (M : zH) (r : Int32) (M' : zH)  (h : F_De_perform n E S a0 a1 a2 x3 x4 x5 M = some (r, M')) : zG E Y_De_perform (some (.int r), S, M') 0 [(0, .ref a0), (1, .ref a1), (2, .ref a2), (3, .int x3), (4, .int x4), (5, .int x5)] [] S M 0 0 := by
  unfold F_De_perform at h
  refine zi_iload_n 3 d_De_perform_0 rfl ?_
  refine zi_iconst 2 d_De_perform_1 rfl ?_
  refine zi_icmp_ne (tgt := 12) d_De_perform_2 rfl (fun c_13 => ?_) (fun c_13 => ?_)
  · rw [if_neg c_13] at h
    refine zi_aload_n 1 d_De_perform_12 rfl ?_
    obtain ⟨b_15, eb_15, h⟩ := zbind h
    refine zo_getR 16 zkd_3 4 d_De_perform_13 eb_15 rfl tw_61 rfl ?_
    refine zi_lo [(0, .ref a0), (1, .ref a1), (2, .ref a2), (3, .int x3), (4, .int x4), (5, .int x5)] [0, 1, 2, 3, 4, 5] rfl ?_
    exact K_De_perform_b16 n E S a0 a1 a2 x3 x4 x5 b_15 M r M'  h
  · rw [if_pos c_13] at h
    refine zi_aload_n 1 d_De_perform_5 rfl ?_
    obtain ⟨b_14, eb_14, h⟩ := zbind h
    refine zo_getR 9 zkd_3 5 d_De_perform_6 eb_14 rfl tw_68 rfl ?_
    refine zi_goto (tgt := 16) d_De_perform_9 rfl ?_
    refine zi_lo [(0, .ref a0), (1, .ref a1), (2, .ref a2), (3, .int x3), (4, .int x4), (5, .int x5)] [0, 1, 2, 3, 4, 5] rfl ?_
    exact K_De_perform_b16 n E S a0 a1 a2 x3 x4 x5 b_14 M r M'  h
theorem C_De_perform (n : Nat) (E : zE) (S : zS) (a0 : Nat) (a1 : Nat) (a2 : Nat) (x3 : Int32) (x4 : Int32) (x5 : Int32) (M : zH) (r : Int32) (M' : zH) (h : F_De_perform n E S a0 a1 a2 x3 x4 x5 M = some (r, M')) : zC E Y_De_perform [.ref a0, .ref a1, .ref a2, .int x3, .int x4, .int x5] S M (some (.int r), S, M') :=
  zC.of (Or.inl (show plainName "NightColander$Deeds" = true by decide)) (Nat.le_of_ble_eq_true rfl) (trivial) (K_De_perform n E S a0 a1 a2 x3 x4 x5 M r M' h)
theorem d_Ni_allLevels_0 : decode (yB Y_Ni_allLevels) 0 = .ok (.iconst 0, 1) := by decide +kernel
theorem d_Ni_allLevels_1 : decode (yB Y_Ni_allLevels) 1 = .ok (.istore_n 1, 1) := by decide +kernel
theorem d_Ni_allLevels_2 : decode (yB Y_Ni_allLevels) 2 = .ok (.iconst 0, 1) := by decide +kernel
theorem d_Ni_allLevels_3 : decode (yB Y_Ni_allLevels) 3 = .ok (.istore_n 2, 1) := by decide +kernel
theorem d_Ni_allLevels_4 : decode (yB Y_Ni_allLevels) 4 = .ok (.iload_n 2, 1) := by decide +kernel
theorem d_Ni_allLevels_5 : decode (yB Y_Ni_allLevels) 5 = .ok (.aload_n 0, 1) := by decide +kernel
theorem d_Ni_allLevels_6 : decode (yB Y_Ni_allLevels) 6 = .ok (.getfield 49, 3) := by decide +kernel
theorem d_Ni_allLevels_9 : decode (yB Y_Ni_allLevels) 9 = .ok (.if_icmp .ge 18, 3) := by decide +kernel
theorem d_Ni_allLevels_12 : decode (yB Y_Ni_allLevels) 12 = .ok (.iload_n 1, 1) := by decide +kernel
theorem d_Ni_allLevels_13 : decode (yB Y_Ni_allLevels) 13 = .ok (.aload_n 0, 1) := by decide +kernel
theorem d_Ni_allLevels_14 : decode (yB Y_Ni_allLevels) 14 = .ok (.getfield 25, 3) := by decide +kernel
theorem d_Ni_allLevels_17 : decode (yB Y_Ni_allLevels) 17 = .ok (.iload_n 2, 1) := by decide +kernel
theorem d_Ni_allLevels_18 : decode (yB Y_Ni_allLevels) 18 = .ok (.iaload, 1) := by decide +kernel
theorem d_Ni_allLevels_19 : decode (yB Y_Ni_allLevels) 19 = .ok (.iadd, 1) := by decide +kernel
theorem d_Ni_allLevels_20 : decode (yB Y_Ni_allLevels) 20 = .ok (.istore_n 1, 1) := by decide +kernel
theorem d_Ni_allLevels_21 : decode (yB Y_Ni_allLevels) 21 = .ok (.iinc 2 1, 3) := by decide +kernel
theorem d_Ni_allLevels_24 : decode (yB Y_Ni_allLevels) 24 = .ok (.goto (-20), 3) := by decide +kernel
theorem d_Ni_allLevels_27 : decode (yB Y_Ni_allLevels) 27 = .ok (.iload_n 1, 1) := by decide +kernel
theorem d_Ni_allLevels_28 : decode (yB Y_Ni_allLevels) 28 = .ok (.ireturn, 1) := by decide +kernel
def F_Ni_allLevels_L4 (n : Nat) (E : zE) (S : zS) (r4 : Nat × Int32 × Int32 × zH → Option (Int32 × zH)) (a0 : Nat) (x1 : Int32) (x2 : Int32) (M : zH) : Option (Int32 × zH) :=
  (zgI S M a0 3 11).bind fun v_1 =>
  if v_1 ≤ x2 then
    some (x1, M)
  else
    (zgR S a0 3 4).bind fun b_3 =>
    (zldI S M b_3 x2).bind fun v_4 =>
    r4 (a0, x1 + v_4, x2 + 1, M)
def F_Ni_allLevels_b4 (n : Nat) (E : zE) (S : zS) : Nat × Int32 × Int32 × zH → Option (Int32 × zH) := zfix (fun r4 s => F_Ni_allLevels_L4 n E S r4 s.1 s.2.1 s.2.2.1 s.2.2.2) n
def F_Ni_allLevels (n : Nat) (E : zE) (S : zS) (a0 : Nat) (M : zH) : Option (Int32 × zH) :=
  F_Ni_allLevels_b4 n E S (a0, 0, 0, M)
theorem K_Ni_allLevels_L4 (n : Nat) (E : zE) (S : zS) (r4 : Nat × Int32 × Int32 × zH → Option (Int32 × zH)) (a0 : Nat) (x1 : Int32) (x2 : Int32) (M : zH) (r : Int32) (M' : zH) (hr4 : ∀ (a0 : Nat) (x1 : Int32) (x2 : Int32) (M : zH), r4 (a0, x1, x2, M) = some (r, M') → zG E Y_Ni_allLevels (some (.int r), S, M') 4 [(0, .ref a0), (1, .int x1), (2, .int x2)] [] S M 0 0) (h : F_Ni_allLevels_L4 n E S r4 a0 x1 x2 M = some (r, M')) : zG E Y_Ni_allLevels (some (.int r), S, M') 4 [(0, .ref a0), (1, .int x1), (2, .int x2)] [] S M 0 0 := by
  unfold F_Ni_allLevels_L4 at h
  refine zi_iload_n 2 d_Ni_allLevels_4 rfl ?_
  refine zi_aload_n 0 d_Ni_allLevels_5 rfl ?_
  obtain ⟨v_1, ev_1, h⟩ := zbind h
  refine zo_getI 9 zkd_3 11 d_Ni_allLevels_6 ev_1 rfl tw_86 rfl ?_
  refine zi_icmp_ge (tgt := 27) d_Ni_allLevels_9 rfl (fun c_2 => ?_) (fun c_2 => ?_)
  · rw [if_pos c_2] at h
    refine zi_iload_n 1 d_Ni_allLevels_27 rfl ?_
    cases h
    exact zo_ret d_Ni_allLevels_28 (Nat.le_of_ble_eq_true rfl) (Nat.le_of_ble_eq_true rfl) rfl
  · rw [if_neg c_2] at h
    refine zi_iload_n 1 d_Ni_allLevels_12 rfl ?_
    refine zi_aload_n 0 d_Ni_allLevels_13 rfl ?_
    obtain ⟨b_3, eb_3, h⟩ := zbind h
    refine zo_getR 17 zkd_3 4 d_Ni_allLevels_14 eb_3 rfl tw_60 rfl ?_
    refine zi_iload_n 2 d_Ni_allLevels_17 rfl ?_
    obtain ⟨v_4, ev_4, h⟩ := zbind h
    refine zo_iald 19 d_Ni_allLevels_18 ev_4 rfl ?_
    refine zi_iadd d_Ni_allLevels_19 ?_
    refine zi_istore_n [(1, .int (x1 + v_4)), (0, .ref a0), (2, .int x2)] d_Ni_allLevels_20 (by decide) rfl ?_
    refine zi_iinc 2 (x2 + 1) [(2, .int (x2 + 1)), (1, .int (x1 + v_4)), (0, .ref a0)] d_Ni_allLevels_21 rfl rfl (by decide) rfl ?_
    refine zi_goto (tgt := 4) d_Ni_allLevels_24 rfl ?_
    refine zi_lo [(0, .ref a0), (1, .int (x1 + v_4)), (2, .int (x2 + 1))] [2, 1, 0] rfl ?_
    exact hr4 a0 (x1 + v_4) (x2 + 1) M h
theorem K_Ni_allLevels_b4 (n : Nat) (E : zE) (S : zS) (a0 : Nat) (x1 : Int32) (x2 : Int32) (M : zH) (r : Int32) (M' : zH)  (h : F_Ni_allLevels_b4 n E S (a0, x1, x2, M) = some (r, M')) : zG E Y_Ni_allLevels (some (.int r), S, M') 4 [(0, .ref a0), (1, .int x1), (2, .int x2)] [] S M 0 0 := by
  have key : ∀ (k : Nat) (a0 : Nat) (x1 : Int32) (x2 : Int32) (M : zH), zfix (fun r4 s => F_Ni_allLevels_L4 n E S r4 s.1 s.2.1 s.2.2.1 s.2.2.2) k (a0, x1, x2, M) = some (r, M') → zG E Y_Ni_allLevels (some (.int r), S, M') 4 [(0, .ref a0), (1, .int x1), (2, .int x2)] [] S M 0 0 := by
    intro k
    induction k with
    | zero => intro a0 x1 x2 M h; cases h
    | succ k ih => intro a0 x1 x2 M h; exact K_Ni_allLevels_L4 n E S _ a0 x1 x2 M r M'  (fun a0 x1 x2 M h => ih a0 x1 x2 M h) h
  exact key n a0 x1 x2 M h
theorem K_Ni_allLevels (n : Nat) (E : zE) (S : zS) (a0 : Nat) (M : zH) (r : Int32) (M' : zH)  (h : F_Ni_allLevels n E S a0 M = some (r, M')) : zG E Y_Ni_allLevels (some (.int r), S, M') 0 [(0, .ref a0)] [] S M 0 0 := by
  unfold F_Ni_allLevels at h
  refine zi_iconst 0 d_Ni_allLevels_0 rfl ?_
  refine zi_istore_n [(1, .int 0), (0, .ref a0)] d_Ni_allLevels_1 (by decide) rfl ?_
  refine zi_iconst 0 d_Ni_allLevels_2 rfl ?_
  refine zi_istore_n [(2, .int 0), (1, .int 0), (0, .ref a0)] d_Ni_allLevels_3 (by decide) rfl ?_
  refine zi_lo [(0, .ref a0), (1, .int 0), (2, .int 0)] [2, 1, 0] rfl ?_
  exact K_Ni_allLevels_b4 n E S a0 0 0 M r M'  h
theorem C_Ni_allLevels (n : Nat) (E : zE) (S : zS) (a0 : Nat) (M : zH) (r : Int32) (M' : zH) (h : F_Ni_allLevels n E S a0 M = some (r, M')) : zC E Y_Ni_allLevels [.ref a0] S M (some (.int r), S, M') :=
  zC.of (Or.inl (show plainName "NightColander$Night" = true by decide)) (Nat.le_of_ble_eq_true rfl) (trivial) (K_Ni_allLevels n E S a0 M r M' h)
theorem d_Ru_findWords_0 : decode (yB Y_Ru_findWords) 0 = .ok (.aload_n 0, 1) := by decide +kernel
theorem d_Ru_findWords_1 : decode (yB Y_Ru_findWords) 1 = .ok (.getfield 18, 3) := by decide +kernel
theorem d_Ru_findWords_4 : decode (yB Y_Ru_findWords) 4 = .ok (.iconst 0, 1) := by decide +kernel
theorem d_Ru_findWords_5 : decode (yB Y_Ru_findWords) 5 = .ok (.aload_n 1, 1) := by decide +kernel
theorem d_Ru_findWords_6 : decode (yB Y_Ru_findWords) 6 = .ok (.getfield 68, 3) := by decide +kernel
theorem d_Ru_findWords_9 : decode (yB Y_Ru_findWords) 9 = .ok (.iconst 0, 1) := by decide +kernel
theorem d_Ru_findWords_10 : decode (yB Y_Ru_findWords) 10 = .ok (.iaload, 1) := by decide +kernel
theorem d_Ru_findWords_11 : decode (yB Y_Ru_findWords) 11 = .ok (.iastore, 1) := by decide +kernel
theorem d_Ru_findWords_12 : decode (yB Y_Ru_findWords) 12 = .ok (.aload_n 0, 1) := by decide +kernel
theorem d_Ru_findWords_13 : decode (yB Y_Ru_findWords) 13 = .ok (.getfield 18, 3) := by decide +kernel
theorem d_Ru_findWords_16 : decode (yB Y_Ru_findWords) 16 = .ok (.iconst 1, 1) := by decide +kernel
theorem d_Ru_findWords_17 : decode (yB Y_Ru_findWords) 17 = .ok (.aload_n 0, 1) := by decide +kernel
theorem d_Ru_findWords_18 : decode (yB Y_Ru_findWords) 18 = .ok (.getfield 22, 3) := by decide +kernel
theorem d_Ru_findWords_21 : decode (yB Y_Ru_findWords) 21 = .ok (.iastore, 1) := by decide +kernel
theorem d_Ru_findWords_22 : decode (yB Y_Ru_findWords) 22 = .ok (.aload_n 0, 1) := by decide +kernel
theorem d_Ru_findWords_23 : decode (yB Y_Ru_findWords) 23 = .ok (.getfield 18, 3) := by decide +kernel
theorem d_Ru_findWords_26 : decode (yB Y_Ru_findWords) 26 = .ok (.iconst 2, 1) := by decide +kernel
theorem d_Ru_findWords_27 : decode (yB Y_Ru_findWords) 27 = .ok (.aload_n 0, 1) := by decide +kernel
theorem d_Ru_findWords_28 : decode (yB Y_Ru_findWords) 28 = .ok (.getfield 26, 3) := by decide +kernel
theorem d_Ru_findWords_31 : decode (yB Y_Ru_findWords) 31 = .ok (.iastore, 1) := by decide +kernel
theorem d_Ru_findWords_32 : decode (yB Y_Ru_findWords) 32 = .ok (.aload_n 0, 1) := by decide +kernel
theorem d_Ru_findWords_33 : decode (yB Y_Ru_findWords) 33 = .ok (.getfield 18, 3) := by decide +kernel
theorem d_Ru_findWords_36 : decode (yB Y_Ru_findWords) 36 = .ok (.iconst 3, 1) := by decide +kernel
theorem d_Ru_findWords_37 : decode (yB Y_Ru_findWords) 37 = .ok (.aload_n 1, 1) := by decide +kernel
theorem d_Ru_findWords_38 : decode (yB Y_Ru_findWords) 38 = .ok (.invokevirtual 73, 3) := by decide +kernel
theorem d_Ru_findWords_41 : decode (yB Y_Ru_findWords) 41 = .ok (.iastore, 1) := by decide +kernel
theorem d_Ru_findWords_42 : decode (yB Y_Ru_findWords) 42 = .ok (.iconst 0, 1) := by decide +kernel
theorem d_Ru_findWords_43 : decode (yB Y_Ru_findWords) 43 = .ok (.istore_n 3, 1) := by decide +kernel
theorem d_Ru_findWords_44 : decode (yB Y_Ru_findWords) 44 = .ok (.iload_n 3, 1) := by decide +kernel
theorem d_Ru_findWords_45 : decode (yB Y_Ru_findWords) 45 = .ok (.iconst 4, 1) := by decide +kernel
theorem d_Ru_findWords_46 : decode (yB Y_Ru_findWords) 46 = .ok (.if_icmp .ge 23, 3) := by decide +kernel
theorem d_Ru_findWords_49 : decode (yB Y_Ru_findWords) 49 = .ok (.aload_n 0, 1) := by decide +kernel
theorem d_Ru_findWords_50 : decode (yB Y_Ru_findWords) 50 = .ok (.getfield 18, 3) := by decide +kernel
theorem d_Ru_findWords_53 : decode (yB Y_Ru_findWords) 53 = .ok (.iconst 4, 1) := by decide +kernel
theorem d_Ru_findWords_54 : decode (yB Y_Ru_findWords) 54 = .ok (.iload_n 3, 1) := by decide +kernel
theorem d_Ru_findWords_55 : decode (yB Y_Ru_findWords) 55 = .ok (.iadd, 1) := by decide +kernel
theorem d_Ru_findWords_56 : decode (yB Y_Ru_findWords) 56 = .ok (.aload_n 1, 1) := by decide +kernel
theorem d_Ru_findWords_57 : decode (yB Y_Ru_findWords) 57 = .ok (.getfield 77, 3) := by decide +kernel
theorem d_Ru_findWords_60 : decode (yB Y_Ru_findWords) 60 = .ok (.iload_n 3, 1) := by decide +kernel
theorem d_Ru_findWords_61 : decode (yB Y_Ru_findWords) 61 = .ok (.iaload, 1) := by decide +kernel
theorem d_Ru_findWords_62 : decode (yB Y_Ru_findWords) 62 = .ok (.iastore, 1) := by decide +kernel
theorem d_Ru_findWords_63 : decode (yB Y_Ru_findWords) 63 = .ok (.iinc 3 1, 3) := by decide +kernel
theorem d_Ru_findWords_66 : decode (yB Y_Ru_findWords) 66 = .ok (.goto (-22), 3) := by decide +kernel
theorem d_Ru_findWords_69 : decode (yB Y_Ru_findWords) 69 = .ok (.iconst 0, 1) := by decide +kernel
theorem d_Ru_findWords_70 : decode (yB Y_Ru_findWords) 70 = .ok (.istore_n 3, 1) := by decide +kernel
theorem d_Ru_findWords_71 : decode (yB Y_Ru_findWords) 71 = .ok (.iload_n 3, 1) := by decide +kernel
theorem d_Ru_findWords_72 : decode (yB Y_Ru_findWords) 72 = .ok (.iconst 3, 1) := by decide +kernel
theorem d_Ru_findWords_73 : decode (yB Y_Ru_findWords) 73 = .ok (.if_icmp .ge 36, 3) := by decide +kernel
theorem d_Ru_findWords_76 : decode (yB Y_Ru_findWords) 76 = .ok (.aload_n 0, 1) := by decide +kernel
theorem d_Ru_findWords_77 : decode (yB Y_Ru_findWords) 77 = .ok (.getfield 18, 3) := by decide +kernel
theorem d_Ru_findWords_80 : decode (yB Y_Ru_findWords) 80 = .ok (.bipush 8, 2) := by decide +kernel
theorem d_Ru_findWords_82 : decode (yB Y_Ru_findWords) 82 = .ok (.iload_n 3, 1) := by decide +kernel
theorem d_Ru_findWords_83 : decode (yB Y_Ru_findWords) 83 = .ok (.iadd, 1) := by decide +kernel
theorem d_Ru_findWords_84 : decode (yB Y_Ru_findWords) 84 = .ok (.aload_n 1, 1) := by decide +kernel
theorem d_Ru_findWords_85 : decode (yB Y_Ru_findWords) 85 = .ok (.iload_n 3, 1) := by decide +kernel
theorem d_Ru_findWords_86 : decode (yB Y_Ru_findWords) 86 = .ok (.invokevirtual 80, 3) := by decide +kernel
theorem d_Ru_findWords_89 : decode (yB Y_Ru_findWords) 89 = .ok (.ifCond .eq 12, 3) := by decide +kernel
theorem d_Ru_findWords_92 : decode (yB Y_Ru_findWords) 92 = .ok (.aload_n 1, 1) := by decide +kernel
theorem d_Ru_findWords_93 : decode (yB Y_Ru_findWords) 93 = .ok (.getfield 84, 3) := by decide +kernel
theorem d_Ru_findWords_96 : decode (yB Y_Ru_findWords) 96 = .ok (.iload_n 3, 1) := by decide +kernel
theorem d_Ru_findWords_97 : decode (yB Y_Ru_findWords) 97 = .ok (.iaload, 1) := by decide +kernel
theorem d_Ru_findWords_98 : decode (yB Y_Ru_findWords) 98 = .ok (.goto 4, 3) := by decide +kernel
theorem d_Ru_findWords_101 : decode (yB Y_Ru_findWords) 101 = .ok (.iconst (-1), 1) := by decide +kernel
theorem d_Ru_findWords_102 : decode (yB Y_Ru_findWords) 102 = .ok (.iastore, 1) := by decide +kernel
theorem d_Ru_findWords_103 : decode (yB Y_Ru_findWords) 103 = .ok (.iinc 3 1, 3) := by decide +kernel
theorem d_Ru_findWords_106 : decode (yB Y_Ru_findWords) 106 = .ok (.goto (-35), 3) := by decide +kernel
theorem d_Ru_findWords_109 : decode (yB Y_Ru_findWords) 109 = .ok (.iconst 0, 1) := by decide +kernel
theorem d_Ru_findWords_110 : decode (yB Y_Ru_findWords) 110 = .ok (.istore_n 3, 1) := by decide +kernel
theorem d_Ru_findWords_111 : decode (yB Y_Ru_findWords) 111 = .ok (.iload_n 3, 1) := by decide +kernel
theorem d_Ru_findWords_112 : decode (yB Y_Ru_findWords) 112 = .ok (.bipush 8, 2) := by decide +kernel
theorem d_Ru_findWords_114 : decode (yB Y_Ru_findWords) 114 = .ok (.if_icmp .ge 38, 3) := by decide +kernel
theorem d_Ru_findWords_117 : decode (yB Y_Ru_findWords) 117 = .ok (.iload_n 2, 1) := by decide +kernel
theorem d_Ru_findWords_118 : decode (yB Y_Ru_findWords) 118 = .ok (.iconst 1, 1) := by decide +kernel
theorem d_Ru_findWords_119 : decode (yB Y_Ru_findWords) 119 = .ok (.bipush 11, 2) := by decide +kernel
theorem d_Ru_findWords_121 : decode (yB Y_Ru_findWords) 121 = .ok (.iload_n 3, 1) := by decide +kernel
theorem d_Ru_findWords_122 : decode (yB Y_Ru_findWords) 122 = .ok (.iadd, 1) := by decide +kernel
theorem d_Ru_findWords_123 : decode (yB Y_Ru_findWords) 123 = .ok (.ishl, 1) := by decide +kernel
theorem d_Ru_findWords_124 : decode (yB Y_Ru_findWords) 124 = .ok (.iand, 1) := by decide +kernel
theorem d_Ru_findWords_125 : decode (yB Y_Ru_findWords) 125 = .ok (.ifCond .eq 21, 3) := by decide +kernel
theorem d_Ru_findWords_128 : decode (yB Y_Ru_findWords) 128 = .ok (.aload_n 0, 1) := by decide +kernel
theorem d_Ru_findWords_129 : decode (yB Y_Ru_findWords) 129 = .ok (.getfield 18, 3) := by decide +kernel
theorem d_Ru_findWords_132 : decode (yB Y_Ru_findWords) 132 = .ok (.bipush 11, 2) := by decide +kernel
theorem d_Ru_findWords_134 : decode (yB Y_Ru_findWords) 134 = .ok (.iload_n 3, 1) := by decide +kernel
theorem d_Ru_findWords_135 : decode (yB Y_Ru_findWords) 135 = .ok (.iadd, 1) := by decide +kernel
theorem d_Ru_findWords_136 : decode (yB Y_Ru_findWords) 136 = .ok (.aload_n 0, 1) := by decide +kernel
theorem d_Ru_findWords_137 : decode (yB Y_Ru_findWords) 137 = .ok (.getfield 29, 3) := by decide +kernel
theorem d_Ru_findWords_140 : decode (yB Y_Ru_findWords) 140 = .ok (.aload_n 1, 1) := by decide +kernel
theorem d_Ru_findWords_141 : decode (yB Y_Ru_findWords) 141 = .ok (.iload_n 3, 1) := by decide +kernel
theorem d_Ru_findWords_142 : decode (yB Y_Ru_findWords) 142 = .ok (.invokevirtual 87, 3) := by decide +kernel
theorem d_Ru_findWords_145 : decode (yB Y_Ru_findWords) 145 = .ok (.iastore, 1) := by decide +kernel
theorem d_Ru_findWords_146 : decode (yB Y_Ru_findWords) 146 = .ok (.iinc 3 1, 3) := by decide +kernel
theorem d_Ru_findWords_149 : decode (yB Y_Ru_findWords) 149 = .ok (.goto (-38), 3) := by decide +kernel
theorem d_Ru_findWords_152 : decode (yB Y_Ru_findWords) 152 = .ok (.return_, 1) := by decide +kernel
def F_Ru_findWords_b102 (n : Nat) (E : zE) (S : zS) (r71 : Nat × Nat × Int32 × Int32 × zH → Option (zH)) (a0 : Nat) (a1 : Nat) (x2 : Int32) (x3 : Int32) (s0 : Int32) (s1 : Int32) (u2 : Nat) (M : zH) : Option (zH) :=
  (zstI S M u2 s1 s0).bind fun m_1 =>
  r71 (a0, a1, x2, x3 + 1, m_1)
def F_Ru_findWords_b146 (n : Nat) (E : zE) (S : zS) (r111 : Nat × Nat × Int32 × Int32 × zH → Option (zH)) (a0 : Nat) (a1 : Nat) (x2 : Int32) (x3 : Int32) (M : zH) : Option (zH) :=
  r111 (a0, a1, x2, x3 + 1, M)
def F_Ru_findWords_L111 (n : Nat) (E : zE) (S : zS) (r111 : Nat × Nat × Int32 × Int32 × zH → Option (zH)) (a0 : Nat) (a1 : Nat) (x2 : Int32) (x3 : Int32) (M : zH) : Option (zH) :=
  if 8 ≤ x3 then
    some (M)
  else
    if (x2 &&& ((1 : Int32) <<< ((11 + x3) &&& (31 : Int32)))) = 0 then
      F_Ru_findWords_b146 n E S r111 a0 a1 x2 x3 M
    else
      (zgR S a0 7 3).bind fun b_4 =>
      (zgR S a0 7 0).bind fun b_5 =>
      (zck S b_5 1).bind fun u_6 =>
      (F_Ju_threadsOn n E S b_5 a1 x3 M).bind fun q_7 =>
      (zstI S q_7.2 b_4 (11 + x3) q_7.1).bind fun m_8 =>
      F_Ru_findWords_b146 n E S r111 a0 a1 x2 x3 m_8
def F_Ru_findWords_b111 (n : Nat) (E : zE) (S : zS) : Nat × Nat × Int32 × Int32 × zH → Option (zH) := zfix (fun r111 s => F_Ru_findWords_L111 n E S r111 s.1 s.2.1 s.2.2.1 s.2.2.2.1 s.2.2.2.2) n
def F_Ru_findWords_L71 (n : Nat) (E : zE) (S : zS) (r71 : Nat × Nat × Int32 × Int32 × zH → Option (zH)) (a0 : Nat) (a1 : Nat) (x2 : Int32) (x3 : Int32) (M : zH) : Option (zH) :=
  if 3 ≤ x3 then
    F_Ru_findWords_b111 n E S (a0, a1, x2, 0, M)
  else
    (zgR S a0 7 3).bind fun b_10 =>
    (zck S a1 3).bind fun u_11 =>
    (F_Ni_hasBucket n E S a1 x3 M).bind fun q_12 =>
    if q_12.1 = true then
      (zgR S a1 3 4).bind fun b_14 =>
      (zldI S q_12.2 b_14 x3).bind fun v_15 =>
      F_Ru_findWords_b102 n E S r71 a0 a1 x2 x3 v_15 (8 + x3) b_10 q_12.2
    else
      F_Ru_findWords_b102 n E S r71 a0 a1 x2 x3 (-1) (8 + x3) b_10 q_12.2
def F_Ru_findWords_b71 (n : Nat) (E : zE) (S : zS) : Nat × Nat × Int32 × Int32 × zH → Option (zH) := zfix (fun r71 s => F_Ru_findWords_L71 n E S r71 s.1 s.2.1 s.2.2.1 s.2.2.2.1 s.2.2.2.2) n
def F_Ru_findWords_L44 (n : Nat) (E : zE) (S : zS) (r44 : Nat × Nat × Int32 × Int32 × zH → Option (zH)) (a0 : Nat) (a1 : Nat) (x2 : Int32) (x3 : Int32) (M : zH) : Option (zH) :=
  if 4 ≤ x3 then
    F_Ru_findWords_b71 n E S (a0, a1, x2, 0, M)
  else
    (zgR S a0 7 3).bind fun b_17 =>
    (zgR S a1 3 2).bind fun b_18 =>
    (zldI S M b_18 x3).bind fun v_19 =>
    (zstI S M b_17 (4 + x3) v_19).bind fun m_20 =>
    r44 (a0, a1, x2, x3 + 1, m_20)
def F_Ru_findWords_b44 (n : Nat) (E : zE) (S : zS) : Nat × Nat × Int32 × Int32 × zH → Option (zH) := zfix (fun r44 s => F_Ru_findWords_L44 n E S r44 s.1 s.2.1 s.2.2.1 s.2.2.2.1 s.2.2.2.2) n
def F_Ru_findWords (n : Nat) (E : zE) (S : zS) (a0 : Nat) (a1 : Nat) (x2 : Int32) (M : zH) : Option (zH) :=
  (zgR S a0 7 3).bind fun b_21 =>
  (zgR S a1 3 9).bind fun b_22 =>
  (zldI S M b_22 0).bind fun v_23 =>
  (zstI S M b_21 0 v_23).bind fun m_24 =>
  (zgI S m_24 a0 7 4).bind fun v_25 =>
  (zstI S m_24 b_21 1 v_25).bind fun m_26 =>
  (zgI S m_26 a0 7 5).bind fun v_27 =>
  (zstI S m_26 b_21 2 v_27).bind fun m_28 =>
  (F_Ni_allLevels n E S a1 m_28).bind fun q_29 =>
  (zstI S q_29.2 b_21 3 q_29.1).bind fun m_30 =>
  F_Ru_findWords_b44 n E S (a0, a1, x2, 0, m_30)
theorem K_Ru_findWords_b102 (n : Nat) (E : zE) (S : zS) (r71 : Nat × Nat × Int32 × Int32 × zH → Option (zH)) (a0 : Nat) (a1 : Nat) (x2 : Int32) (x3 : Int32) (s0 : Int32) (s1 : Int32) (u2 : Nat) (M : zH) (M' : zH) (hr71 : ∀ (a0 : Nat) (a1 : Nat) (x2 : Int32) (x3 : Int32) (M : zH), r71 (a0, a1, x2, x3, M) = some M' → zG E Y_Ru_findWords (none, S, M') 71 [(0, .ref a0), (1, .ref a1), (2, .int x2), (3, .int x3)] [] S M 0 0) (h : F_Ru_findWords_b102 n E S r71 a0 a1 x2 x3 s0 s1 u2 M = some M') : zG E Y_Ru_findWords (none, S, M') 102 [(0, .ref a0), (1, .ref a1), (2, .int x2), (3, .int x3)] [.int s0, .int s1, .ref u2] S M 0 0 := by
  unfold F_Ru_findWords_b102 at h
  obtain ⟨m_1, em_1, h⟩ := zbind h
  refine zo_iast 103 d_Ru_findWords_102 em_1 rfl ?_
  refine zi_iinc 3 (x3 + 1) [(3, .int (x3 + 1)), (0, .ref a0), (1, .ref a1), (2, .int x2)] d_Ru_findWords_103 rfl rfl (by decide) rfl ?_
  refine zi_goto (tgt := 71) d_Ru_findWords_106 rfl ?_
  refine zi_lo [(0, .ref a0), (1, .ref a1), (2, .int x2), (3, .int (x3 + 1))] [1, 2, 3, 0] rfl ?_
  exact hr71 a0 a1 x2 (x3 + 1) m_1 h
theorem K_Ru_findWords_b146 (n : Nat) (E : zE) (S : zS) (r111 : Nat × Nat × Int32 × Int32 × zH → Option (zH)) (a0 : Nat) (a1 : Nat) (x2 : Int32) (x3 : Int32) (M : zH) (M' : zH) (hr111 : ∀ (a0 : Nat) (a1 : Nat) (x2 : Int32) (x3 : Int32) (M : zH), r111 (a0, a1, x2, x3, M) = some M' → zG E Y_Ru_findWords (none, S, M') 111 [(0, .ref a0), (1, .ref a1), (2, .int x2), (3, .int x3)] [] S M 0 0) (h : F_Ru_findWords_b146 n E S r111 a0 a1 x2 x3 M = some M') : zG E Y_Ru_findWords (none, S, M') 146 [(0, .ref a0), (1, .ref a1), (2, .int x2), (3, .int x3)] [] S M 0 0 := by
  unfold F_Ru_findWords_b146 at h
  refine zi_iinc 3 (x3 + 1) [(3, .int (x3 + 1)), (0, .ref a0), (1, .ref a1), (2, .int x2)] d_Ru_findWords_146 rfl rfl (by decide) rfl ?_
  refine zi_goto (tgt := 111) d_Ru_findWords_149 rfl ?_
  refine zi_lo [(0, .ref a0), (1, .ref a1), (2, .int x2), (3, .int (x3 + 1))] [1, 2, 3, 0] rfl ?_
  exact hr111 a0 a1 x2 (x3 + 1) M h
theorem K_Ru_findWords_L111 (n : Nat) (E : zE) (S : zS) (r111 : Nat × Nat × Int32 × Int32 × zH → Option (zH)) (a0 : Nat) (a1 : Nat) (x2 : Int32) (x3 : Int32) (M : zH) (M' : zH) (hr111 : ∀ (a0 : Nat) (a1 : Nat) (x2 : Int32) (x3 : Int32) (M : zH), r111 (a0, a1, x2, x3, M) = some M' → zG E Y_Ru_findWords (none, S, M') 111 [(0, .ref a0), (1, .ref a1), (2, .int x2), (3, .int x3)] [] S M 0 0) (h : F_Ru_findWords_L111 n E S r111 a0 a1 x2 x3 M = some M') : zG E Y_Ru_findWords (none, S, M') 111 [(0, .ref a0), (1, .ref a1), (2, .int x2), (3, .int x3)] [] S M 0 0 := by
  unfold F_Ru_findWords_L111 at h
  refine zi_iload_n 3 d_Ru_findWords_111 rfl ?_
  refine zi_bipush 8 d_Ru_findWords_112 rfl ?_
  refine zi_icmp_ge (tgt := 152) d_Ru_findWords_114 rfl (fun c_2 => ?_) (fun c_2 => ?_)
  · rw [if_pos c_2] at h
    cases h
    exact zo_ret d_Ru_findWords_152 (Nat.le_of_ble_eq_true rfl) (Nat.le_of_ble_eq_true rfl) rfl
  · rw [if_neg c_2] at h
    refine zi_iload_n 2 d_Ru_findWords_117 rfl ?_
    refine zi_iconst 1 d_Ru_findWords_118 rfl ?_
    refine zi_bipush 11 d_Ru_findWords_119 rfl ?_
    refine zi_iload_n 3 d_Ru_findWords_121 rfl ?_
    refine zi_iadd d_Ru_findWords_122 ?_
    refine zi_ishl d_Ru_findWords_123 ?_
    refine zi_iand d_Ru_findWords_124 ?_
    refine zi_if_eq (tgt := 146) d_Ru_findWords_125 rfl (fun c_3 => ?_) (fun c_3 => ?_)
    · rw [if_pos c_3] at h
      refine zi_lo [(0, .ref a0), (1, .ref a1), (2, .int x2), (3, .int x3)] [0, 1, 2, 3] rfl ?_
      exact K_Ru_findWords_b146 n E S r111 a0 a1 x2 x3 M M' hr111 h
    · rw [if_neg c_3] at h
      refine zi_aload_n 0 d_Ru_findWords_128 rfl ?_
      obtain ⟨b_4, eb_4, h⟩ := zbind h
      refine zo_getR 132 zkd_7 3 d_Ru_findWords_129 eb_4 rfl tw_273 rfl ?_
      refine zi_bipush 11 d_Ru_findWords_132 rfl ?_
      refine zi_iload_n 3 d_Ru_findWords_134 rfl ?_
      refine zi_iadd d_Ru_findWords_135 ?_
      refine zi_aload_n 0 d_Ru_findWords_136 rfl ?_
      obtain ⟨b_5, eb_5, h⟩ := zbind h
      refine zo_getR 140 zkd_7 0 d_Ru_findWords_137 eb_5 rfl tw_270 rfl ?_
      refine zi_aload_n 1 d_Ru_findWords_140 rfl ?_
      refine zi_iload_n 3 d_Ru_findWords_141 rfl ?_
      obtain ⟨u_6, eu_6, h⟩ := zbind h
      obtain ⟨q_7, eq_7, h⟩ := zbind h
      refine zo_virt (k' := 0) (n' := 0) 145 [.ref a1, .int x3] [.int (11 + x3), .ref b_4] [.int q_7.1, .int (11 + x3), .ref b_4] zkd_1 (zck_s eu_6) (C_Ju_threadsOn n E S b_5 a1 x3 M q_7.1 q_7.2 eq_7) d_Ru_findWords_142 tw_512 tw_886 tw_510 tw_511 tw_8 dd_Ju_threadsOn ⟨Nat.le_of_ble_eq_true rfl, Nat.le_of_ble_eq_true rfl, Nat.le_of_ble_eq_true rfl, Nat.le_of_ble_eq_true rfl⟩ (Nat.le_of_ble_eq_true rfl) rfl rfl rfl rfl ?_
      obtain ⟨m_8, em_8, h⟩ := zbind h
      refine zo_iast 146 d_Ru_findWords_145 em_8 rfl ?_
      refine zi_lo [(0, .ref a0), (1, .ref a1), (2, .int x2), (3, .int x3)] [0, 1, 2, 3] rfl ?_
      exact K_Ru_findWords_b146 n E S r111 a0 a1 x2 x3 m_8 M' hr111 h
theorem K_Ru_findWords_b111 (n : Nat) (E : zE) (S : zS) (a0 : Nat) (a1 : Nat) (x2 : Int32) (x3 : Int32) (M : zH) (M' : zH)  (h : F_Ru_findWords_b111 n E S (a0, a1, x2, x3, M) = some M') : zG E Y_Ru_findWords (none, S, M') 111 [(0, .ref a0), (1, .ref a1), (2, .int x2), (3, .int x3)] [] S M 0 0 := by
  have key : ∀ (k : Nat) (a0 : Nat) (a1 : Nat) (x2 : Int32) (x3 : Int32) (M : zH), zfix (fun r111 s => F_Ru_findWords_L111 n E S r111 s.1 s.2.1 s.2.2.1 s.2.2.2.1 s.2.2.2.2) k (a0, a1, x2, x3, M) = some M' → zG E Y_Ru_findWords (none, S, M') 111 [(0, .ref a0), (1, .ref a1), (2, .int x2), (3, .int x3)] [] S M 0 0 := by
    intro k
    induction k with
    | zero => intro a0 a1 x2 x3 M h; cases h
    | succ k ih => intro a0 a1 x2 x3 M h; exact K_Ru_findWords_L111 n E S _ a0 a1 x2 x3 M M'  (fun a0 a1 x2 x3 M h => ih a0 a1 x2 x3 M h) h
  exact key n a0 a1 x2 x3 M h
theorem K_Ru_findWords_L71 (n : Nat) (E : zE) (S : zS) (r71 : Nat × Nat × Int32 × Int32 × zH → Option (zH)) (a0 : Nat) (a1 : Nat) (x2 : Int32) (x3 : Int32) (M : zH) (M' : zH) (hr71 : ∀ (a0 : Nat) (a1 : Nat) (x2 : Int32) (x3 : Int32) (M : zH), r71 (a0, a1, x2, x3, M) = some M' → zG E Y_Ru_findWords (none, S, M') 71 [(0, .ref a0), (1, .ref a1), (2, .int x2), (3, .int x3)] [] S M 0 0) (h : F_Ru_findWords_L71 n E S r71 a0 a1 x2 x3 M = some M') : zG E Y_Ru_findWords (none, S, M') 71 [(0, .ref a0), (1, .ref a1), (2, .int x2), (3, .int x3)] [] S M 0 0 := by
  unfold F_Ru_findWords_L71 at h
  refine zi_iload_n 3 d_Ru_findWords_71 rfl ?_
  refine zi_iconst 3 d_Ru_findWords_72 rfl ?_
  refine zi_icmp_ge (tgt := 109) d_Ru_findWords_73 rfl (fun c_9 => ?_) (fun c_9 => ?_)
  · rw [if_pos c_9] at h
    refine zi_iconst 0 d_Ru_findWords_109 rfl ?_
    refine zi_istore_n [(3, .int 0), (0, .ref a0), (1, .ref a1), (2, .int x2)] d_Ru_findWords_110 (by decide) rfl ?_
    refine zi_lo [(0, .ref a0), (1, .ref a1), (2, .int x2), (3, .int 0)] [1, 2, 3, 0] rfl ?_
    exact K_Ru_findWords_b111 n E S a0 a1 x2 0 M M'  h
  · rw [if_neg c_9] at h
    refine zi_aload_n 0 d_Ru_findWords_76 rfl ?_
    obtain ⟨b_10, eb_10, h⟩ := zbind h
    refine zo_getR 80 zkd_7 3 d_Ru_findWords_77 eb_10 rfl tw_273 rfl ?_
    refine zi_bipush 8 d_Ru_findWords_80 rfl ?_
    refine zi_iload_n 3 d_Ru_findWords_82 rfl ?_
    refine zi_iadd d_Ru_findWords_83 ?_
    refine zi_aload_n 1 d_Ru_findWords_84 rfl ?_
    refine zi_iload_n 3 d_Ru_findWords_85 rfl ?_
    obtain ⟨u_11, eu_11, h⟩ := zbind h
    obtain ⟨q_12, eq_12, h⟩ := zbind h
    refine zo_virt (k' := 0) (n' := 0) 89 [.int x3] [.int (8 + x3), .ref b_10] [.int (bI q_12.1), .int (8 + x3), .ref b_10] zkd_3 (zck_s eu_11) (C_Ni_hasBucket n E S a1 x3 M q_12.1 q_12.2 eq_12) d_Ru_findWords_86 tw_479 tw_885 tw_477 tw_478 tw_2 dd_Ni_hasBucket ⟨Nat.le_of_ble_eq_true rfl, Nat.le_of_ble_eq_true rfl, Nat.le_of_ble_eq_true rfl, Nat.le_of_ble_eq_true rfl⟩ (Nat.le_of_ble_eq_true rfl) rfl rfl rfl rfl ?_
    refine zo_ifeqB d_Ru_findWords_89 rfl 92 rfl (fun c_13 => ?_) (fun c_13 => ?_)
    · rw [if_neg c_13] at h
      refine zi_iconst (-1) d_Ru_findWords_101 rfl ?_
      refine zi_lo [(0, .ref a0), (1, .ref a1), (2, .int x2), (3, .int x3)] [0, 1, 2, 3] rfl ?_
      exact K_Ru_findWords_b102 n E S r71 a0 a1 x2 x3 (-1) (8 + x3) b_10 q_12.2 M' hr71 h
    · rw [if_pos c_13] at h
      refine zi_aload_n 1 d_Ru_findWords_92 rfl ?_
      obtain ⟨b_14, eb_14, h⟩ := zbind h
      refine zo_getR 96 zkd_3 4 d_Ru_findWords_93 eb_14 rfl tw_62 rfl ?_
      refine zi_iload_n 3 d_Ru_findWords_96 rfl ?_
      obtain ⟨v_15, ev_15, h⟩ := zbind h
      refine zo_iald 98 d_Ru_findWords_97 ev_15 rfl ?_
      refine zi_goto (tgt := 102) d_Ru_findWords_98 rfl ?_
      refine zi_lo [(0, .ref a0), (1, .ref a1), (2, .int x2), (3, .int x3)] [0, 1, 2, 3] rfl ?_
      exact K_Ru_findWords_b102 n E S r71 a0 a1 x2 x3 v_15 (8 + x3) b_10 q_12.2 M' hr71 h
theorem K_Ru_findWords_b71 (n : Nat) (E : zE) (S : zS) (a0 : Nat) (a1 : Nat) (x2 : Int32) (x3 : Int32) (M : zH) (M' : zH)  (h : F_Ru_findWords_b71 n E S (a0, a1, x2, x3, M) = some M') : zG E Y_Ru_findWords (none, S, M') 71 [(0, .ref a0), (1, .ref a1), (2, .int x2), (3, .int x3)] [] S M 0 0 := by
  have key : ∀ (k : Nat) (a0 : Nat) (a1 : Nat) (x2 : Int32) (x3 : Int32) (M : zH), zfix (fun r71 s => F_Ru_findWords_L71 n E S r71 s.1 s.2.1 s.2.2.1 s.2.2.2.1 s.2.2.2.2) k (a0, a1, x2, x3, M) = some M' → zG E Y_Ru_findWords (none, S, M') 71 [(0, .ref a0), (1, .ref a1), (2, .int x2), (3, .int x3)] [] S M 0 0 := by
    intro k
    induction k with
    | zero => intro a0 a1 x2 x3 M h; cases h
    | succ k ih => intro a0 a1 x2 x3 M h; exact K_Ru_findWords_L71 n E S _ a0 a1 x2 x3 M M'  (fun a0 a1 x2 x3 M h => ih a0 a1 x2 x3 M h) h
  exact key n a0 a1 x2 x3 M h
theorem K_Ru_findWords_L44 (n : Nat) (E : zE) (S : zS) (r44 : Nat × Nat × Int32 × Int32 × zH → Option (zH)) (a0 : Nat) (a1 : Nat) (x2 : Int32) (x3 : Int32) (M : zH) (M' : zH) (hr44 : ∀ (a0 : Nat) (a1 : Nat) (x2 : Int32) (x3 : Int32) (M : zH), r44 (a0, a1, x2, x3, M) = some M' → zG E Y_Ru_findWords (none, S, M') 44 [(0, .ref a0), (1, .ref a1), (2, .int x2), (3, .int x3)] [] S M 0 0) (h : F_Ru_findWords_L44 n E S r44 a0 a1 x2 x3 M = some M') : zG E Y_Ru_findWords (none, S, M') 44 [(0, .ref a0), (1, .ref a1), (2, .int x2), (3, .int x3)] [] S M 0 0 := by
  unfold F_Ru_findWords_L44 at h
  refine zi_iload_n 3 d_Ru_findWords_44 rfl ?_
  refine zi_iconst 4 d_Ru_findWords_45 rfl ?_
  refine zi_icmp_ge (tgt := 69) d_Ru_findWords_46 rfl (fun c_16 => ?_) (fun c_16 => ?_)
  · rw [if_pos c_16] at h
    refine zi_iconst 0 d_Ru_findWords_69 rfl ?_
    refine zi_istore_n [(3, .int 0), (0, .ref a0), (1, .ref a1), (2, .int x2)] d_Ru_findWords_70 (by decide) rfl ?_
    refine zi_lo [(0, .ref a0), (1, .ref a1), (2, .int x2), (3, .int 0)] [1, 2, 3, 0] rfl ?_
    exact K_Ru_findWords_b71 n E S a0 a1 x2 0 M M'  h
  · rw [if_neg c_16] at h
    refine zi_aload_n 0 d_Ru_findWords_49 rfl ?_
    obtain ⟨b_17, eb_17, h⟩ := zbind h
    refine zo_getR 53 zkd_7 3 d_Ru_findWords_50 eb_17 rfl tw_273 rfl ?_
    refine zi_iconst 4 d_Ru_findWords_53 rfl ?_
    refine zi_iload_n 3 d_Ru_findWords_54 rfl ?_
    refine zi_iadd d_Ru_findWords_55 ?_
    refine zi_aload_n 1 d_Ru_findWords_56 rfl ?_
    obtain ⟨b_18, eb_18, h⟩ := zbind h
    refine zo_getR 60 zkd_3 2 d_Ru_findWords_57 eb_18 rfl tw_54 rfl ?_
    refine zi_iload_n 3 d_Ru_findWords_60 rfl ?_
    obtain ⟨v_19, ev_19, h⟩ := zbind h
    refine zo_iald 62 d_Ru_findWords_61 ev_19 rfl ?_
    obtain ⟨m_20, em_20, h⟩ := zbind h
    refine zo_iast 63 d_Ru_findWords_62 em_20 rfl ?_
    refine zi_iinc 3 (x3 + 1) [(3, .int (x3 + 1)), (0, .ref a0), (1, .ref a1), (2, .int x2)] d_Ru_findWords_63 rfl rfl (by decide) rfl ?_
    refine zi_goto (tgt := 44) d_Ru_findWords_66 rfl ?_
    refine zi_lo [(0, .ref a0), (1, .ref a1), (2, .int x2), (3, .int (x3 + 1))] [1, 2, 3, 0] rfl ?_
    exact hr44 a0 a1 x2 (x3 + 1) m_20 h
theorem K_Ru_findWords_b44 (n : Nat) (E : zE) (S : zS) (a0 : Nat) (a1 : Nat) (x2 : Int32) (x3 : Int32) (M : zH) (M' : zH)  (h : F_Ru_findWords_b44 n E S (a0, a1, x2, x3, M) = some M') : zG E Y_Ru_findWords (none, S, M') 44 [(0, .ref a0), (1, .ref a1), (2, .int x2), (3, .int x3)] [] S M 0 0 := by
  have key : ∀ (k : Nat) (a0 : Nat) (a1 : Nat) (x2 : Int32) (x3 : Int32) (M : zH), zfix (fun r44 s => F_Ru_findWords_L44 n E S r44 s.1 s.2.1 s.2.2.1 s.2.2.2.1 s.2.2.2.2) k (a0, a1, x2, x3, M) = some M' → zG E Y_Ru_findWords (none, S, M') 44 [(0, .ref a0), (1, .ref a1), (2, .int x2), (3, .int x3)] [] S M 0 0 := by
    intro k
    induction k with
    | zero => intro a0 a1 x2 x3 M h; cases h
    | succ k ih => intro a0 a1 x2 x3 M h; exact K_Ru_findWords_L44 n E S _ a0 a1 x2 x3 M M'  (fun a0 a1 x2 x3 M h => ih a0 a1 x2 x3 M h) h
  exact key n a0 a1 x2 x3 M h
theorem K_Ru_findWords (n : Nat) (E : zE) (S : zS) (a0 : Nat) (a1 : Nat) (x2 : Int32) (M : zH) (M' : zH)  (h : F_Ru_findWords n E S a0 a1 x2 M = some M') : zG E Y_Ru_findWords (none, S, M') 0 [(0, .ref a0), (1, .ref a1), (2, .int x2)] [] S M 0 0 := by
  unfold F_Ru_findWords at h
  refine zi_aload_n 0 d_Ru_findWords_0 rfl ?_
  obtain ⟨b_21, eb_21, h⟩ := zbind h
  refine zo_getR 4 zkd_7 3 d_Ru_findWords_1 eb_21 rfl tw_273 rfl ?_
  refine zi_iconst 0 d_Ru_findWords_4 rfl ?_
  refine zi_aload_n 1 d_Ru_findWords_5 rfl ?_
  obtain ⟨b_22, eb_22, h⟩ := zbind h
  refine zo_getR 9 zkd_3 9 d_Ru_findWords_6 eb_22 rfl tw_82 rfl ?_
  refine zi_iconst 0 d_Ru_findWords_9 rfl ?_
  obtain ⟨v_23, ev_23, h⟩ := zbind h
  refine zo_iald 11 d_Ru_findWords_10 ev_23 rfl ?_
  obtain ⟨m_24, em_24, h⟩ := zbind h
  refine zo_iast 12 d_Ru_findWords_11 em_24 rfl ?_
  refine zi_aload_n 0 d_Ru_findWords_12 rfl ?_
  refine zo_getR 16 zkd_7 3 d_Ru_findWords_13 eb_21 rfl tw_273 rfl ?_
  refine zi_iconst 1 d_Ru_findWords_16 rfl ?_
  refine zi_aload_n 0 d_Ru_findWords_17 rfl ?_
  obtain ⟨v_25, ev_25, h⟩ := zbind h
  refine zo_getI 21 zkd_7 4 d_Ru_findWords_18 ev_25 rfl tw_274 rfl ?_
  obtain ⟨m_26, em_26, h⟩ := zbind h
  refine zo_iast 22 d_Ru_findWords_21 em_26 rfl ?_
  refine zi_aload_n 0 d_Ru_findWords_22 rfl ?_
  refine zo_getR 26 zkd_7 3 d_Ru_findWords_23 eb_21 rfl tw_273 rfl ?_
  refine zi_iconst 2 d_Ru_findWords_26 rfl ?_
  refine zi_aload_n 0 d_Ru_findWords_27 rfl ?_
  obtain ⟨v_27, ev_27, h⟩ := zbind h
  refine zo_getI 31 zkd_7 5 d_Ru_findWords_28 ev_27 rfl tw_276 rfl ?_
  obtain ⟨m_28, em_28, h⟩ := zbind h
  refine zo_iast 32 d_Ru_findWords_31 em_28 rfl ?_
  refine zi_aload_n 0 d_Ru_findWords_32 rfl ?_
  refine zo_getR 36 zkd_7 3 d_Ru_findWords_33 eb_21 rfl tw_273 rfl ?_
  refine zi_iconst 3 d_Ru_findWords_36 rfl ?_
  refine zi_aload_n 1 d_Ru_findWords_37 rfl ?_
  obtain ⟨q_29, eq_29, h⟩ := zbind h
  refine zo_virt (k' := 0) (n' := 0) 41 [] [.int 3, .ref b_21] [.int q_29.1, .int 3, .ref b_21] zkd_3 (zgR_s eb_22).1 (C_Ni_allLevels n E S a1 m_28 q_29.1 q_29.2 eq_29) d_Ru_findWords_38 tw_884 tw_881 tw_882 tw_883 tw_2 dd_Ni_allLevels ⟨Nat.le_of_ble_eq_true rfl, Nat.le_of_ble_eq_true rfl, Nat.le_of_ble_eq_true rfl, Nat.le_of_ble_eq_true rfl⟩ (Nat.le_of_ble_eq_true rfl) rfl rfl rfl rfl ?_
  obtain ⟨m_30, em_30, h⟩ := zbind h
  refine zo_iast 42 d_Ru_findWords_41 em_30 rfl ?_
  refine zi_iconst 0 d_Ru_findWords_42 rfl ?_
  refine zi_istore_n [(3, .int 0), (0, .ref a0), (1, .ref a1), (2, .int x2)] d_Ru_findWords_43 (by decide) rfl ?_
  refine zi_lo [(0, .ref a0), (1, .ref a1), (2, .int x2), (3, .int 0)] [1, 2, 3, 0] rfl ?_
  exact K_Ru_findWords_b44 n E S a0 a1 x2 0 m_30 M'  h
theorem C_Ru_findWords (n : Nat) (E : zE) (S : zS) (a0 : Nat) (a1 : Nat) (x2 : Int32) (M : zH) (M' : zH) (h : F_Ru_findWords n E S a0 a1 x2 M = some M') : zC E Y_Ru_findWords [.ref a0, .ref a1, .int x2] S M (none, S, M') :=
  zC.of (Or.inl (show plainName "NightColander$Runner" = true by decide)) (Nat.le_of_ble_eq_true rfl) (trivial) (K_Ru_findWords n E S a0 a1 x2 M M' h)
theorem d_Ru_run_0 : decode (yB Y_Ru_run) 0 = .ok (.aload_n 0, 1) := by decide +kernel
theorem d_Ru_run_1 : decode (yB Y_Ru_run) 1 = .ok (.iconst 0, 1) := by decide +kernel
theorem d_Ru_run_2 : decode (yB Y_Ru_run) 2 = .ok (.putfield 22, 3) := by decide +kernel
theorem d_Ru_run_5 : decode (yB Y_Ru_run) 5 = .ok (.aload_n 0, 1) := by decide +kernel
theorem d_Ru_run_6 : decode (yB Y_Ru_run) 6 = .ok (.iconst (-1), 1) := by decide +kernel
theorem d_Ru_run_7 : decode (yB Y_Ru_run) 7 = .ok (.putfield 26, 3) := by decide +kernel
theorem d_Ru_run_10 : decode (yB Y_Ru_run) 10 = .ok (.iconst 0, 1) := by decide +kernel
theorem d_Ru_run_11 : decode (yB Y_Ru_run) 11 = .ok (.istore 4, 2) := by decide +kernel
theorem d_Ru_run_13 : decode (yB Y_Ru_run) 13 = .ok (.iload 4, 2) := by decide +kernel
theorem d_Ru_run_15 : decode (yB Y_Ru_run) 15 = .ok (.aload_n 3, 1) := by decide +kernel
theorem d_Ru_run_16 : decode (yB Y_Ru_run) 16 = .ok (.getfield 37, 3) := by decide +kernel
theorem d_Ru_run_19 : decode (yB Y_Ru_run) 19 = .ok (.if_icmp .ge 261, 3) := by decide +kernel
theorem d_Ru_run_22 : decode (yB Y_Ru_run) 22 = .ok (.aload_n 3, 1) := by decide +kernel
theorem d_Ru_run_23 : decode (yB Y_Ru_run) 23 = .ok (.iload 4, 2) := by decide +kernel
theorem d_Ru_run_25 : decode (yB Y_Ru_run) 25 = .ok (.iconst 0, 1) := by decide +kernel
theorem d_Ru_run_26 : decode (yB Y_Ru_run) 26 = .ok (.invokevirtual 42, 3) := by decide +kernel
theorem d_Ru_run_29 : decode (yB Y_Ru_run) 29 = .ok (.istore 5, 2) := by decide +kernel
theorem d_Ru_run_31 : decode (yB Y_Ru_run) 31 = .ok (.aload_n 3, 1) := by decide +kernel
theorem d_Ru_run_32 : decode (yB Y_Ru_run) 32 = .ok (.iload 4, 2) := by decide +kernel
theorem d_Ru_run_34 : decode (yB Y_Ru_run) 34 = .ok (.iconst 1, 1) := by decide +kernel
theorem d_Ru_run_35 : decode (yB Y_Ru_run) 35 = .ok (.invokevirtual 42, 3) := by decide +kernel
theorem d_Ru_run_38 : decode (yB Y_Ru_run) 38 = .ok (.istore 6, 2) := by decide +kernel
theorem d_Ru_run_40 : decode (yB Y_Ru_run) 40 = .ok (.aload_n 3, 1) := by decide +kernel
theorem d_Ru_run_41 : decode (yB Y_Ru_run) 41 = .ok (.iload 4, 2) := by decide +kernel
theorem d_Ru_run_43 : decode (yB Y_Ru_run) 43 = .ok (.iconst 2, 1) := by decide +kernel
theorem d_Ru_run_44 : decode (yB Y_Ru_run) 44 = .ok (.invokevirtual 42, 3) := by decide +kernel
theorem d_Ru_run_47 : decode (yB Y_Ru_run) 47 = .ok (.istore 7, 2) := by decide +kernel
theorem d_Ru_run_49 : decode (yB Y_Ru_run) 49 = .ok (.aload_n 3, 1) := by decide +kernel
theorem d_Ru_run_50 : decode (yB Y_Ru_run) 50 = .ok (.iload 4, 2) := by decide +kernel
theorem d_Ru_run_52 : decode (yB Y_Ru_run) 52 = .ok (.iconst 3, 1) := by decide +kernel
theorem d_Ru_run_53 : decode (yB Y_Ru_run) 53 = .ok (.invokevirtual 42, 3) := by decide +kernel
theorem d_Ru_run_56 : decode (yB Y_Ru_run) 56 = .ok (.istore 8, 2) := by decide +kernel
theorem d_Ru_run_58 : decode (yB Y_Ru_run) 58 = .ok (.iconst 0, 1) := by decide +kernel
theorem d_Ru_run_59 : decode (yB Y_Ru_run) 59 = .ok (.istore 9, 2) := by decide +kernel
theorem d_Ru_run_61 : decode (yB Y_Ru_run) 61 = .ok (.iload 9, 2) := by decide +kernel
theorem d_Ru_run_63 : decode (yB Y_Ru_run) 63 = .ok (.aload_n 3, 1) := by decide +kernel
theorem d_Ru_run_64 : decode (yB Y_Ru_run) 64 = .ok (.getfield 46, 3) := by decide +kernel
theorem d_Ru_run_67 : decode (yB Y_Ru_run) 67 = .ok (.iload 4, 2) := by decide +kernel
theorem d_Ru_run_69 : decode (yB Y_Ru_run) 69 = .ok (.iaload, 1) := by decide +kernel
theorem d_Ru_run_70 : decode (yB Y_Ru_run) 70 = .ok (.if_icmp .ge 204, 3) := by decide +kernel
theorem d_Ru_run_73 : decode (yB Y_Ru_run) 73 = .ok (.aload_n 0, 1) := by decide +kernel
theorem d_Ru_run_74 : decode (yB Y_Ru_run) 74 = .ok (.aload_n 1, 1) := by decide +kernel
theorem d_Ru_run_75 : decode (yB Y_Ru_run) 75 = .ok (.aload_n 3, 1) := by decide +kernel
theorem d_Ru_run_76 : decode (yB Y_Ru_run) 76 = .ok (.getfield 49, 3) := by decide +kernel
theorem d_Ru_run_79 : decode (yB Y_Ru_run) 79 = .ok (.iload 4, 2) := by decide +kernel
theorem d_Ru_run_81 : decode (yB Y_Ru_run) 81 = .ok (.iaload, 1) := by decide +kernel
theorem d_Ru_run_82 : decode (yB Y_Ru_run) 82 = .ok (.invokevirtual 50, 3) := by decide +kernel
theorem d_Ru_run_85 : decode (yB Y_Ru_run) 85 = .ok (.iload 7, 2) := by decide +kernel
theorem d_Ru_run_87 : decode (yB Y_Ru_run) 87 = .ok (.iload 8, 2) := by decide +kernel
theorem d_Ru_run_89 : decode (yB Y_Ru_run) 89 = .ok (.if_icmp .ge 26, 3) := by decide +kernel
theorem d_Ru_run_92 : decode (yB Y_Ru_run) 92 = .ok (.aload_n 0, 1) := by decide +kernel
theorem d_Ru_run_93 : decode (yB Y_Ru_run) 93 = .ok (.getfield 12, 3) := by decide +kernel
theorem d_Ru_run_96 : decode (yB Y_Ru_run) 96 = .ok (.aload_n 3, 1) := by decide +kernel
theorem d_Ru_run_97 : decode (yB Y_Ru_run) 97 = .ok (.iload 7, 2) := by decide +kernel
theorem d_Ru_run_99 : decode (yB Y_Ru_run) 99 = .ok (.iload 8, 2) := by decide +kernel
theorem d_Ru_run_101 : decode (yB Y_Ru_run) 101 = .ok (.aload_n 0, 1) := by decide +kernel
theorem d_Ru_run_102 : decode (yB Y_Ru_run) 102 = .ok (.getfield 18, 3) := by decide +kernel
theorem d_Ru_run_105 : decode (yB Y_Ru_run) 105 = .ok (.invokevirtual 54, 3) := by decide +kernel
theorem d_Ru_run_108 : decode (yB Y_Ru_run) 108 = .ok (.iconst 1, 1) := by decide +kernel
theorem d_Ru_run_109 : decode (yB Y_Ru_run) 109 = .ok (.if_icmp .eq 6, 3) := by decide +kernel
theorem d_Ru_run_112 : decode (yB Y_Ru_run) 112 = .ok (.goto 156, 3) := by decide +kernel
theorem d_Ru_run_115 : decode (yB Y_Ru_run) 115 = .ok (.aload_n 3, 1) := by decide +kernel
theorem d_Ru_run_116 : decode (yB Y_Ru_run) 116 = .ok (.getfield 58, 3) := by decide +kernel
theorem d_Ru_run_119 : decode (yB Y_Ru_run) 119 = .ok (.iload 4, 2) := by decide +kernel
theorem d_Ru_run_121 : decode (yB Y_Ru_run) 121 = .ok (.iaload, 1) := by decide +kernel
theorem d_Ru_run_122 : decode (yB Y_Ru_run) 122 = .ok (.iconst 3, 1) := by decide +kernel
theorem d_Ru_run_123 : decode (yB Y_Ru_run) 123 = .ok (.if_icmp .eq 7, 3) := by decide +kernel
theorem d_Ru_run_126 : decode (yB Y_Ru_run) 126 = .ok (.iconst 1, 1) := by decide +kernel
theorem d_Ru_run_127 : decode (yB Y_Ru_run) 127 = .ok (.goto 4, 3) := by decide +kernel
theorem d_Ru_run_130 : decode (yB Y_Ru_run) 130 = .ok (.iconst 0, 1) := by decide +kernel
theorem d_Ru_run_131 : decode (yB Y_Ru_run) 131 = .ok (.istore 10, 2) := by decide +kernel
theorem d_Ru_run_133 : decode (yB Y_Ru_run) 133 = .ok (.iload 10, 2) := by decide +kernel
theorem d_Ru_run_135 : decode (yB Y_Ru_run) 135 = .ok (.ifCond .eq 22, 3) := by decide +kernel
theorem d_Ru_run_138 : decode (yB Y_Ru_run) 138 = .ok (.aload_n 0, 1) := by decide +kernel
theorem d_Ru_run_139 : decode (yB Y_Ru_run) 139 = .ok (.getfield 12, 3) := by decide +kernel
theorem d_Ru_run_142 : decode (yB Y_Ru_run) 142 = .ok (.aload_n 3, 1) := by decide +kernel
theorem d_Ru_run_143 : decode (yB Y_Ru_run) 143 = .ok (.iload 5, 2) := by decide +kernel
theorem d_Ru_run_145 : decode (yB Y_Ru_run) 145 = .ok (.iload 6, 2) := by decide +kernel
theorem d_Ru_run_147 : decode (yB Y_Ru_run) 147 = .ok (.aload_n 0, 1) := by decide +kernel
theorem d_Ru_run_148 : decode (yB Y_Ru_run) 148 = .ok (.getfield 18, 3) := by decide +kernel
theorem d_Ru_run_151 : decode (yB Y_Ru_run) 151 = .ok (.invokevirtual 54, 3) := by decide +kernel
theorem d_Ru_run_154 : decode (yB Y_Ru_run) 154 = .ok (.goto 4, 3) := by decide +kernel
theorem d_Ru_run_157 : decode (yB Y_Ru_run) 157 = .ok (.iconst 0, 1) := by decide +kernel
theorem d_Ru_run_158 : decode (yB Y_Ru_run) 158 = .ok (.istore 11, 2) := by decide +kernel
theorem d_Ru_run_160 : decode (yB Y_Ru_run) 160 = .ok (.iload 10, 2) := by decide +kernel
theorem d_Ru_run_162 : decode (yB Y_Ru_run) 162 = .ok (.ifCond .eq 22, 3) := by decide +kernel
theorem d_Ru_run_165 : decode (yB Y_Ru_run) 165 = .ok (.aload_n 0, 1) := by decide +kernel
theorem d_Ru_run_166 : decode (yB Y_Ru_run) 166 = .ok (.getfield 12, 3) := by decide +kernel
theorem d_Ru_run_169 : decode (yB Y_Ru_run) 169 = .ok (.aload_n 3, 1) := by decide +kernel
theorem d_Ru_run_170 : decode (yB Y_Ru_run) 170 = .ok (.iload 6, 2) := by decide +kernel
theorem d_Ru_run_172 : decode (yB Y_Ru_run) 172 = .ok (.iload 7, 2) := by decide +kernel
theorem d_Ru_run_174 : decode (yB Y_Ru_run) 174 = .ok (.aload_n 0, 1) := by decide +kernel
theorem d_Ru_run_175 : decode (yB Y_Ru_run) 175 = .ok (.getfield 18, 3) := by decide +kernel
theorem d_Ru_run_178 : decode (yB Y_Ru_run) 178 = .ok (.invokevirtual 54, 3) := by decide +kernel
theorem d_Ru_run_181 : decode (yB Y_Ru_run) 181 = .ok (.goto 4, 3) := by decide +kernel
theorem d_Ru_run_184 : decode (yB Y_Ru_run) 184 = .ok (.iconst 0, 1) := by decide +kernel
theorem d_Ru_run_185 : decode (yB Y_Ru_run) 185 = .ok (.istore 12, 2) := by decide +kernel
theorem d_Ru_run_187 : decode (yB Y_Ru_run) 187 = .ok (.iload 11, 2) := by decide +kernel
theorem d_Ru_run_189 : decode (yB Y_Ru_run) 189 = .ok (.ldc 61, 2) := by decide +kernel
theorem d_Ru_run_191 : decode (yB Y_Ru_run) 191 = .ok (.if_icmp .eq 10, 3) := by decide +kernel
theorem d_Ru_run_194 : decode (yB Y_Ru_run) 194 = .ok (.iload 12, 2) := by decide +kernel
theorem d_Ru_run_196 : decode (yB Y_Ru_run) 196 = .ok (.ldc 61, 2) := by decide +kernel
theorem d_Ru_run_198 : decode (yB Y_Ru_run) 198 = .ok (.if_icmp .ne 6, 3) := by decide +kernel
theorem d_Ru_run_201 : decode (yB Y_Ru_run) 201 = .ok (.iload 4, 2) := by decide +kernel
theorem d_Ru_run_203 : decode (yB Y_Ru_run) 203 = .ok (.ireturn, 1) := by decide +kernel
theorem d_Ru_run_204 : decode (yB Y_Ru_run) 204 = .ok (.aload_n 0, 1) := by decide +kernel
theorem d_Ru_run_205 : decode (yB Y_Ru_run) 205 = .ok (.getfield 33, 3) := by decide +kernel
theorem d_Ru_run_208 : decode (yB Y_Ru_run) 208 = .ok (.aload_n 1, 1) := by decide +kernel
theorem d_Ru_run_209 : decode (yB Y_Ru_run) 209 = .ok (.aload_n 2, 1) := by decide +kernel
theorem d_Ru_run_210 : decode (yB Y_Ru_run) 210 = .ok (.aload_n 3, 1) := by decide +kernel
theorem d_Ru_run_211 : decode (yB Y_Ru_run) 211 = .ok (.getfield 58, 3) := by decide +kernel
theorem d_Ru_run_214 : decode (yB Y_Ru_run) 214 = .ok (.iload 4, 2) := by decide +kernel
theorem d_Ru_run_216 : decode (yB Y_Ru_run) 216 = .ok (.iaload, 1) := by decide +kernel
theorem d_Ru_run_217 : decode (yB Y_Ru_run) 217 = .ok (.iload 11, 2) := by decide +kernel
theorem d_Ru_run_219 : decode (yB Y_Ru_run) 219 = .ok (.iload 12, 2) := by decide +kernel
theorem d_Ru_run_221 : decode (yB Y_Ru_run) 221 = .ok (.invokevirtual 62, 3) := by decide +kernel
theorem d_Ru_run_224 : decode (yB Y_Ru_run) 224 = .ok (.istore 13, 2) := by decide +kernel
theorem d_Ru_run_226 : decode (yB Y_Ru_run) 226 = .ok (.iload 13, 2) := by decide +kernel
theorem d_Ru_run_228 : decode (yB Y_Ru_run) 228 = .ok (.ifCond .ge 6, 3) := by decide +kernel
theorem d_Ru_run_231 : decode (yB Y_Ru_run) 231 = .ok (.iload 4, 2) := by decide +kernel
theorem d_Ru_run_233 : decode (yB Y_Ru_run) 233 = .ok (.ireturn, 1) := by decide +kernel
theorem d_Ru_run_234 : decode (yB Y_Ru_run) 234 = .ok (.aload_n 0, 1) := by decide +kernel
theorem d_Ru_run_235 : decode (yB Y_Ru_run) 235 = .ok (.dup, 1) := by decide +kernel
theorem d_Ru_run_236 : decode (yB Y_Ru_run) 236 = .ok (.getfield 22, 3) := by decide +kernel
theorem d_Ru_run_239 : decode (yB Y_Ru_run) 239 = .ok (.iconst 1, 1) := by decide +kernel
theorem d_Ru_run_240 : decode (yB Y_Ru_run) 240 = .ok (.iadd, 1) := by decide +kernel
theorem d_Ru_run_241 : decode (yB Y_Ru_run) 241 = .ok (.putfield 22, 3) := by decide +kernel
theorem d_Ru_run_244 : decode (yB Y_Ru_run) 244 = .ok (.aload_n 0, 1) := by decide +kernel
theorem d_Ru_run_245 : decode (yB Y_Ru_run) 245 = .ok (.aload_n 3, 1) := by decide +kernel
theorem d_Ru_run_246 : decode (yB Y_Ru_run) 246 = .ok (.getfield 58, 3) := by decide +kernel
theorem d_Ru_run_249 : decode (yB Y_Ru_run) 249 = .ok (.iload 4, 2) := by decide +kernel
theorem d_Ru_run_251 : decode (yB Y_Ru_run) 251 = .ok (.iaload, 1) := by decide +kernel
theorem d_Ru_run_252 : decode (yB Y_Ru_run) 252 = .ok (.iconst 3, 1) := by decide +kernel
theorem d_Ru_run_253 : decode (yB Y_Ru_run) 253 = .ok (.if_icmp .ne 8, 3) := by decide +kernel
theorem d_Ru_run_256 : decode (yB Y_Ru_run) 256 = .ok (.iload 13, 2) := by decide +kernel
theorem d_Ru_run_258 : decode (yB Y_Ru_run) 258 = .ok (.goto 7, 3) := by decide +kernel
theorem d_Ru_run_261 : decode (yB Y_Ru_run) 261 = .ok (.aload_n 0, 1) := by decide +kernel
theorem d_Ru_run_262 : decode (yB Y_Ru_run) 262 = .ok (.getfield 26, 3) := by decide +kernel
theorem d_Ru_run_265 : decode (yB Y_Ru_run) 265 = .ok (.putfield 26, 3) := by decide +kernel
theorem d_Ru_run_268 : decode (yB Y_Ru_run) 268 = .ok (.iinc 9 1, 3) := by decide +kernel
theorem d_Ru_run_271 : decode (yB Y_Ru_run) 271 = .ok (.goto (-210), 3) := by decide +kernel
theorem d_Ru_run_274 : decode (yB Y_Ru_run) 274 = .ok (.iinc 4 1, 3) := by decide +kernel
theorem d_Ru_run_277 : decode (yB Y_Ru_run) 277 = .ok (.goto (-264), 3) := by decide +kernel
theorem d_Ru_run_280 : decode (yB Y_Ru_run) 280 = .ok (.iconst (-1), 1) := by decide +kernel
theorem d_Ru_run_281 : decode (yB Y_Ru_run) 281 = .ok (.ireturn, 1) := by decide +kernel
def F_Ru_run_b268 (n : Nat) (E : zE) (S : zS) (r13 : Nat × Nat × Nat × Nat × Int32 × zH → Option (Int32 × zH)) (r61 : Nat × Nat × Nat × Nat × Int32 × Int32 × Int32 × Int32 × Int32 × Int32 × zH → Option (Int32 × zH)) (a0 : Nat) (a1 : Nat) (a2 : Nat) (a3 : Nat) (x4 : Int32) (x5 : Int32) (x6 : Int32) (x7 : Int32) (x8 : Int32) (x9 : Int32) (M : zH) : Option (Int32 × zH) :=
  r61 (a0, a1, a2, a3, x4, x5, x6, x7, x8, x9 + 1, M)
def F_Ru_run_b265 (n : Nat) (E : zE) (S : zS) (r13 : Nat × Nat × Nat × Nat × Int32 × zH → Option (Int32 × zH)) (r61 : Nat × Nat × Nat × Nat × Int32 × Int32 × Int32 × Int32 × Int32 × Int32 × zH → Option (Int32 × zH)) (a0 : Nat) (a1 : Nat) (a2 : Nat) (a3 : Nat) (x4 : Int32) (x5 : Int32) (x6 : Int32) (x7 : Int32) (x8 : Int32) (x9 : Int32) (s0 : Int32) (u1 : Nat) (M : zH) : Option (Int32 × zH) :=
  (zpI S M u1 7 5 s0).bind fun m_1 =>
  F_Ru_run_b268 n E S r13 r61 a0 a1 a2 a3 x4 x5 x6 x7 x8 x9 m_1
def F_Ru_run_b185 (n : Nat) (E : zE) (S : zS) (r13 : Nat × Nat × Nat × Nat × Int32 × zH → Option (Int32 × zH)) (r61 : Nat × Nat × Nat × Nat × Int32 × Int32 × Int32 × Int32 × Int32 × Int32 × zH → Option (Int32 × zH)) (a0 : Nat) (a1 : Nat) (a2 : Nat) (a3 : Nat) (x4 : Int32) (x5 : Int32) (x6 : Int32) (x7 : Int32) (x8 : Int32) (x9 : Int32) (x11 : Int32) (s0 : Int32) (M : zH) : Option (Int32 × zH) :=
  if x11 = (-2147483648) then
    some (x4, M)
  else
    if s0 = (-2147483648) then
      some (x4, M)
    else
      (zgR S a0 7 1).bind fun b_4 =>
      (zgR S a3 9 1).bind fun b_5 =>
      (zldI S M b_5 x4).bind fun v_6 =>
      (zck S b_4 0).bind fun u_7 =>
      (F_De_perform n E S b_4 a1 a2 v_6 x11 s0 M).bind fun q_8 =>
      if 0 ≤ q_8.1 then
        (zgI S q_8.2 a0 7 4).bind fun v_10 =>
        (zpI S q_8.2 a0 7 4 (v_10 + 1)).bind fun m_11 =>
        (zldI S m_11 b_5 x4).bind fun v_12 =>
        if v_12 = 3 then
          F_Ru_run_b265 n E S r13 r61 a0 a1 a2 a3 x4 x5 x6 x7 x8 x9 q_8.1 a0 m_11
        else
          (zgI S m_11 a0 7 5).bind fun v_14 =>
          F_Ru_run_b265 n E S r13 r61 a0 a1 a2 a3 x4 x5 x6 x7 x8 x9 v_14 a0 m_11
      else
        some (x4, q_8.2)
def F_Ru_run_b158 (n : Nat) (E : zE) (S : zS) (r13 : Nat × Nat × Nat × Nat × Int32 × zH → Option (Int32 × zH)) (r61 : Nat × Nat × Nat × Nat × Int32 × Int32 × Int32 × Int32 × Int32 × Int32 × zH → Option (Int32 × zH)) (a0 : Nat) (a1 : Nat) (a2 : Nat) (a3 : Nat) (x4 : Int32) (x5 : Int32) (x6 : Int32) (x7 : Int32) (x8 : Int32) (x9 : Int32) (x10 : Int32) (s0 : Int32) (M : zH) : Option (Int32 × zH) :=
  if x10 = 0 then
    F_Ru_run_b185 n E S r13 r61 a0 a1 a2 a3 x4 x5 x6 x7 x8 x9 s0 0 M
  else
    (zgR S a0 7 2).bind fun b_16 =>
    (zgR S a0 7 3).bind fun b_17 =>
    (zck S b_16 2).bind fun u_18 =>
    (F_Mc_work n E S b_16 a3 x6 x7 b_17 M).bind fun q_19 =>
    F_Ru_run_b185 n E S r13 r61 a0 a1 a2 a3 x4 x5 x6 x7 x8 x9 s0 q_19.1 q_19.2
def F_Ru_run_b131 (n : Nat) (E : zE) (S : zS) (r13 : Nat × Nat × Nat × Nat × Int32 × zH → Option (Int32 × zH)) (r61 : Nat × Nat × Nat × Nat × Int32 × Int32 × Int32 × Int32 × Int32 × Int32 × zH → Option (Int32 × zH)) (a0 : Nat) (a1 : Nat) (a2 : Nat) (a3 : Nat) (x4 : Int32) (x5 : Int32) (x6 : Int32) (x7 : Int32) (x8 : Int32) (x9 : Int32) (s0 : Int32) (M : zH) : Option (Int32 × zH) :=
  if s0 = 0 then
    F_Ru_run_b158 n E S r13 r61 a0 a1 a2 a3 x4 x5 x6 x7 x8 x9 s0 0 M
  else
    (zgR S a0 7 2).bind fun b_21 =>
    (zgR S a0 7 3).bind fun b_22 =>
    (zck S b_21 2).bind fun u_23 =>
    (F_Mc_work n E S b_21 a3 x5 x6 b_22 M).bind fun q_24 =>
    F_Ru_run_b158 n E S r13 r61 a0 a1 a2 a3 x4 x5 x6 x7 x8 x9 s0 q_24.1 q_24.2
def F_Ru_run_b115 (n : Nat) (E : zE) (S : zS) (r13 : Nat × Nat × Nat × Nat × Int32 × zH → Option (Int32 × zH)) (r61 : Nat × Nat × Nat × Nat × Int32 × Int32 × Int32 × Int32 × Int32 × Int32 × zH → Option (Int32 × zH)) (a0 : Nat) (a1 : Nat) (a2 : Nat) (a3 : Nat) (x4 : Int32) (x5 : Int32) (x6 : Int32) (x7 : Int32) (x8 : Int32) (x9 : Int32) (M : zH) : Option (Int32 × zH) :=
  (zgR S a3 9 1).bind fun b_25 =>
  (zldI S M b_25 x4).bind fun v_26 =>
  if v_26 = 3 then
    F_Ru_run_b131 n E S r13 r61 a0 a1 a2 a3 x4 x5 x6 x7 x8 x9 0 M
  else
    F_Ru_run_b131 n E S r13 r61 a0 a1 a2 a3 x4 x5 x6 x7 x8 x9 1 M
def F_Ru_run_L61 (n : Nat) (E : zE) (S : zS) (r13 : Nat × Nat × Nat × Nat × Int32 × zH → Option (Int32 × zH)) (r61 : Nat × Nat × Nat × Nat × Int32 × Int32 × Int32 × Int32 × Int32 × Int32 × zH → Option (Int32 × zH)) (a0 : Nat) (a1 : Nat) (a2 : Nat) (a3 : Nat) (x4 : Int32) (x5 : Int32) (x6 : Int32) (x7 : Int32) (x8 : Int32) (x9 : Int32) (M : zH) : Option (Int32 × zH) :=
  (zgR S a3 9 2).bind fun b_28 =>
  (zldI S M b_28 x4).bind fun v_29 =>
  if v_29 ≤ x9 then
    r13 (a0, a1, a2, a3, x4 + 1, M)
  else
    (zgR S a3 9 3).bind fun b_31 =>
    (zldI S M b_31 x4).bind fun v_32 =>
    (zck S a0 7).bind fun u_33 =>
    (F_Ru_findWords n E S a0 a1 v_32 M).bind fun q_34 =>
    if x8 ≤ x7 then
      F_Ru_run_b115 n E S r13 r61 a0 a1 a2 a3 x4 x5 x6 x7 x8 x9 q_34
    else
      (zgR S a0 7 2).bind fun b_36 =>
      (zgR S a0 7 3).bind fun b_37 =>
      (zck S b_36 2).bind fun u_38 =>
      (F_Mc_work n E S b_36 a3 x7 x8 b_37 q_34).bind fun q_39 =>
      if q_39.1 = 1 then
        F_Ru_run_b115 n E S r13 r61 a0 a1 a2 a3 x4 x5 x6 x7 x8 x9 q_39.2
      else
        F_Ru_run_b268 n E S r13 r61 a0 a1 a2 a3 x4 x5 x6 x7 x8 x9 q_39.2
def F_Ru_run_b61 (n : Nat) (E : zE) (S : zS) (r13 : Nat × Nat × Nat × Nat × Int32 × zH → Option (Int32 × zH)) : Nat × Nat × Nat × Nat × Int32 × Int32 × Int32 × Int32 × Int32 × Int32 × zH → Option (Int32 × zH) := zfix (fun r61 s => F_Ru_run_L61 n E S r13 r61 s.1 s.2.1 s.2.2.1 s.2.2.2.1 s.2.2.2.2.1 s.2.2.2.2.2.1 s.2.2.2.2.2.2.1 s.2.2.2.2.2.2.2.1 s.2.2.2.2.2.2.2.2.1 s.2.2.2.2.2.2.2.2.2.1 s.2.2.2.2.2.2.2.2.2.2) n
def F_Ru_run_L13 (n : Nat) (E : zE) (S : zS) (r13 : Nat × Nat × Nat × Nat × Int32 × zH → Option (Int32 × zH)) (a0 : Nat) (a1 : Nat) (a2 : Nat) (a3 : Nat) (x4 : Int32) (M : zH) : Option (Int32 × zH) :=
  (zgI S M a3 9 6).bind fun v_41 =>
  if v_41 ≤ x4 then
    some ((-1), M)
  else
    (F_Te_markOf n E S a3 x4 0 M).bind fun q_43 =>
    (F_Te_markOf n E S a3 x4 1 q_43.2).bind fun q_44 =>
    (F_Te_markOf n E S a3 x4 2 q_44.2).bind fun q_45 =>
    (F_Te_markOf n E S a3 x4 3 q_45.2).bind fun q_46 =>
    F_Ru_run_b61 n E S r13 (a0, a1, a2, a3, x4, q_43.1, q_44.1, q_45.1, q_46.1, 0, q_46.2)
def F_Ru_run_b13 (n : Nat) (E : zE) (S : zS) : Nat × Nat × Nat × Nat × Int32 × zH → Option (Int32 × zH) := zfix (fun r13 s => F_Ru_run_L13 n E S r13 s.1 s.2.1 s.2.2.1 s.2.2.2.1 s.2.2.2.2.1 s.2.2.2.2.2) n
def F_Ru_run (n : Nat) (E : zE) (S : zS) (a0 : Nat) (a1 : Nat) (a2 : Nat) (a3 : Nat) (M : zH) : Option (Int32 × zH) :=
  (zpI S M a0 7 4 0).bind fun m_47 =>
  (zpI S m_47 a0 7 5 (-1)).bind fun m_48 =>
  F_Ru_run_b13 n E S (a0, a1, a2, a3, 0, m_48)
theorem K_Ru_run_b268 (n : Nat) (E : zE) (S : zS) (r13 : Nat × Nat × Nat × Nat × Int32 × zH → Option (Int32 × zH)) (r61 : Nat × Nat × Nat × Nat × Int32 × Int32 × Int32 × Int32 × Int32 × Int32 × zH → Option (Int32 × zH)) (a0 : Nat) (a1 : Nat) (a2 : Nat) (a3 : Nat) (x4 : Int32) (x5 : Int32) (x6 : Int32) (x7 : Int32) (x8 : Int32) (x9 : Int32) (M : zH) (r : Int32) (M' : zH) (hr13 : ∀ (a0 : Nat) (a1 : Nat) (a2 : Nat) (a3 : Nat) (x4 : Int32) (M : zH), r13 (a0, a1, a2, a3, x4, M) = some (r, M') → zG E Y_Ru_run (some (.int r), S, M') 13 [(0, .ref a0), (1, .ref a1), (2, .ref a2), (3, .ref a3), (4, .int x4)] [] S M 0 0) (hr61 : ∀ (a0 : Nat) (a1 : Nat) (a2 : Nat) (a3 : Nat) (x4 : Int32) (x5 : Int32) (x6 : Int32) (x7 : Int32) (x8 : Int32) (x9 : Int32) (M : zH), r61 (a0, a1, a2, a3, x4, x5, x6, x7, x8, x9, M) = some (r, M') → zG E Y_Ru_run (some (.int r), S, M') 61 [(0, .ref a0), (1, .ref a1), (2, .ref a2), (3, .ref a3), (4, .int x4), (5, .int x5), (6, .int x6), (7, .int x7), (8, .int x8), (9, .int x9)] [] S M 0 0) (h : F_Ru_run_b268 n E S r13 r61 a0 a1 a2 a3 x4 x5 x6 x7 x8 x9 M = some (r, M')) : zG E Y_Ru_run (some (.int r), S, M') 268 [(0, .ref a0), (1, .ref a1), (2, .ref a2), (3, .ref a3), (4, .int x4), (5, .int x5), (6, .int x6), (7, .int x7), (8, .int x8), (9, .int x9)] [] S M 0 0 := by
  unfold F_Ru_run_b268 at h
  refine zi_iinc 9 (x9 + 1) [(9, .int (x9 + 1)), (0, .ref a0), (1, .ref a1), (2, .ref a2), (3, .ref a3), (4, .int x4), (5, .int x5), (6, .int x6), (7, .int x7), (8, .int x8)] d_Ru_run_268 rfl rfl (by decide) rfl ?_
  refine zi_goto (tgt := 61) d_Ru_run_271 rfl ?_
  refine zi_lo [(0, .ref a0), (1, .ref a1), (2, .ref a2), (3, .ref a3), (4, .int x4), (5, .int x5), (6, .int x6), (7, .int x7), (8, .int x8), (9, .int (x9 + 1))] [1, 2, 3, 4, 5, 6, 7, 8, 9, 0] rfl ?_
  exact hr61 a0 a1 a2 a3 x4 x5 x6 x7 x8 (x9 + 1) M h
theorem K_Ru_run_b265 (n : Nat) (E : zE) (S : zS) (r13 : Nat × Nat × Nat × Nat × Int32 × zH → Option (Int32 × zH)) (r61 : Nat × Nat × Nat × Nat × Int32 × Int32 × Int32 × Int32 × Int32 × Int32 × zH → Option (Int32 × zH)) (a0 : Nat) (a1 : Nat) (a2 : Nat) (a3 : Nat) (x4 : Int32) (x5 : Int32) (x6 : Int32) (x7 : Int32) (x8 : Int32) (x9 : Int32) (s0 : Int32) (u1 : Nat) (M : zH) (r : Int32) (M' : zH) (hr13 : ∀ (a0 : Nat) (a1 : Nat) (a2 : Nat) (a3 : Nat) (x4 : Int32) (M : zH), r13 (a0, a1, a2, a3, x4, M) = some (r, M') → zG E Y_Ru_run (some (.int r), S, M') 13 [(0, .ref a0), (1, .ref a1), (2, .ref a2), (3, .ref a3), (4, .int x4)] [] S M 0 0) (hr61 : ∀ (a0 : Nat) (a1 : Nat) (a2 : Nat) (a3 : Nat) (x4 : Int32) (x5 : Int32) (x6 : Int32) (x7 : Int32) (x8 : Int32) (x9 : Int32) (M : zH), r61 (a0, a1, a2, a3, x4, x5, x6, x7, x8, x9, M) = some (r, M') → zG E Y_Ru_run (some (.int r), S, M') 61 [(0, .ref a0), (1, .ref a1), (2, .ref a2), (3, .ref a3), (4, .int x4), (5, .int x5), (6, .int x6), (7, .int x7), (8, .int x8), (9, .int x9)] [] S M 0 0) (h : F_Ru_run_b265 n E S r13 r61 a0 a1 a2 a3 x4 x5 x6 x7 x8 x9 s0 u1 M = some (r, M')) : zG E Y_Ru_run (some (.int r), S, M') 265 [(0, .ref a0), (1, .ref a1), (2, .ref a2), (3, .ref a3), (4, .int x4), (5, .int x5), (6, .int x6), (7, .int x7), (8, .int x8), (9, .int x9)] [.int s0, .ref u1] S M 0 0 := by
  unfold F_Ru_run_b265 at h
  obtain ⟨m_1, em_1, h⟩ := zbind h
  refine zo_putI 268 zkd_7 5 d_Ru_run_265 em_1 rfl rfl rfl tw_276 rfl ?_
  refine zi_lo [(0, .ref a0), (1, .ref a1), (2, .ref a2), (3, .ref a3), (4, .int x4), (5, .int x5), (6, .int x6), (7, .int x7), (8, .int x8), (9, .int x9)] [0, 1, 2, 3, 4, 5, 6, 7, 8, 9] rfl ?_
  exact K_Ru_run_b268 n E S r13 r61 a0 a1 a2 a3 x4 x5 x6 x7 x8 x9 m_1 r M' hr13 hr61 h
theorem K_Ru_run_b185 (n : Nat) (E : zE) (S : zS) (r13 : Nat × Nat × Nat × Nat × Int32 × zH → Option (Int32 × zH)) (r61 : Nat × Nat × Nat × Nat × Int32 × Int32 × Int32 × Int32 × Int32 × Int32 × zH → Option (Int32 × zH)) (a0 : Nat) (a1 : Nat) (a2 : Nat) (a3 : Nat) (x4 : Int32) (x5 : Int32) (x6 : Int32) (x7 : Int32) (x8 : Int32) (x9 : Int32) (x11 : Int32) (s0 : Int32) (M : zH) (r : Int32) (M' : zH) (hr13 : ∀ (a0 : Nat) (a1 : Nat) (a2 : Nat) (a3 : Nat) (x4 : Int32) (M : zH), r13 (a0, a1, a2, a3, x4, M) = some (r, M') → zG E Y_Ru_run (some (.int r), S, M') 13 [(0, .ref a0), (1, .ref a1), (2, .ref a2), (3, .ref a3), (4, .int x4)] [] S M 0 0) (hr61 : ∀ (a0 : Nat) (a1 : Nat) (a2 : Nat) (a3 : Nat) (x4 : Int32) (x5 : Int32) (x6 : Int32) (x7 : Int32) (x8 : Int32) (x9 : Int32) (M : zH), r61 (a0, a1, a2, a3, x4, x5, x6, x7, x8, x9, M) = some (r, M') → zG E Y_Ru_run (some (.int r), S, M') 61 [(0, .ref a0), (1, .ref a1), (2, .ref a2), (3, .ref a3), (4, .int x4), (5, .int x5), (6, .int x6), (7, .int x7), (8, .int x8), (9, .int x9)] [] S M 0 0) (h : F_Ru_run_b185 n E S r13 r61 a0 a1 a2 a3 x4 x5 x6 x7 x8 x9 x11 s0 M = some (r, M')) : zG E Y_Ru_run (some (.int r), S, M') 185 [(0, .ref a0), (1, .ref a1), (2, .ref a2), (3, .ref a3), (4, .int x4), (5, .int x5), (6, .int x6), (7, .int x7), (8, .int x8), (9, .int x9), (11, .int x11)] [.int s0] S M 0 0 := by
  unfold F_Ru_run_b185 at h
  refine zi_istore [(12, .int s0), (0, .ref a0), (1, .ref a1), (2, .ref a2), (3, .ref a3), (4, .int x4), (5, .int x5), (6, .int x6), (7, .int x7), (8, .int x8), (9, .int x9), (11, .int x11)] d_Ru_run_185 (by decide) rfl ?_
  refine zi_iload 11 d_Ru_run_187 rfl ?_
  refine zi_ldc d_Ru_run_189 tw_888 ?_
  refine zi_icmp_eq (tgt := 201) d_Ru_run_191 rfl (fun c_2 => ?_) (fun c_2 => ?_)
  · rw [if_pos c_2] at h
    refine zi_iload 5 d_Ru_run_201 rfl ?_
    cases h
    exact zo_ret d_Ru_run_203 (Nat.le_of_ble_eq_true rfl) (Nat.le_of_ble_eq_true rfl) rfl
  · rw [if_neg c_2] at h
    refine zi_iload 0 d_Ru_run_194 rfl ?_
    refine zi_ldc d_Ru_run_196 tw_888 ?_
    refine zi_icmp_ne (tgt := 204) d_Ru_run_198 rfl (fun c_3 => ?_) (fun c_3 => ?_)
    · rw [if_neg c_3] at h
      refine zi_aload_n 1 d_Ru_run_204 rfl ?_
      obtain ⟨b_4, eb_4, h⟩ := zbind h
      refine zo_getR 208 zkd_7 1 d_Ru_run_205 eb_4 rfl tw_271 rfl ?_
      refine zi_aload_n 2 d_Ru_run_208 rfl ?_
      refine zi_aload_n 3 d_Ru_run_209 rfl ?_
      refine zi_aload_n 4 d_Ru_run_210 rfl ?_
      obtain ⟨b_5, eb_5, h⟩ := zbind h
      refine zo_getR 214 zkd_9 1 d_Ru_run_211 eb_5 rfl tw_188 rfl ?_
      refine zi_iload 5 d_Ru_run_214 rfl ?_
      obtain ⟨v_6, ev_6, h⟩ := zbind h
      refine zo_iald 217 d_Ru_run_216 ev_6 rfl ?_
      refine zi_iload 11 d_Ru_run_217 rfl ?_
      refine zi_iload 0 d_Ru_run_219 rfl ?_
      obtain ⟨u_7, eu_7, h⟩ := zbind h
      obtain ⟨q_8, eq_8, h⟩ := zbind h
      refine zo_virt (k' := 0) (n' := 0) 224 [.ref a1, .ref a2, .int v_6, .int x11, .int s0] [] [.int q_8.1] zkd_0 (zck_s eu_7) (C_De_perform n E S b_4 a1 a2 v_6 x11 s0 M q_8.1 q_8.2 eq_8) d_Ru_run_221 tw_892 tw_889 tw_890 tw_891 tw_10 dd_De_perform ⟨Nat.le_of_ble_eq_true rfl, Nat.le_of_ble_eq_true rfl, Nat.le_of_ble_eq_true rfl, Nat.le_of_ble_eq_true rfl⟩ (Nat.le_of_ble_eq_true rfl) rfl rfl rfl rfl ?_
      refine zi_istore [(13, .int q_8.1), (12, .int s0), (0, .ref a0), (1, .ref a1), (2, .ref a2), (3, .ref a3), (4, .int x4), (5, .int x5), (6, .int x6), (7, .int x7), (8, .int x8), (9, .int x9), (11, .int x11)] d_Ru_run_224 (by decide) rfl ?_
      refine zi_iload 0 d_Ru_run_226 rfl ?_
      refine zi_if_ge (tgt := 234) d_Ru_run_228 rfl (fun c_9 => ?_) (fun c_9 => ?_)
      · rw [if_pos c_9] at h
        refine zi_aload_n 2 d_Ru_run_234 rfl ?_
        refine zi_dup d_Ru_run_235 rfl ?_
        obtain ⟨v_10, ev_10, h⟩ := zbind h
        refine zo_getI 239 zkd_7 4 d_Ru_run_236 ev_10 rfl tw_274 rfl ?_
        refine zi_iconst 1 d_Ru_run_239 rfl ?_
        refine zi_iadd d_Ru_run_240 ?_
        obtain ⟨m_11, em_11, h⟩ := zbind h
        refine zo_putI 244 zkd_7 4 d_Ru_run_241 em_11 rfl rfl rfl tw_274 rfl ?_
        refine zi_aload_n 2 d_Ru_run_244 rfl ?_
        refine zi_aload_n 5 d_Ru_run_245 rfl ?_
        refine zo_getR 249 zkd_9 1 d_Ru_run_246 eb_5 rfl tw_188 rfl ?_
        refine zi_iload 6 d_Ru_run_249 rfl ?_
        obtain ⟨v_12, ev_12, h⟩ := zbind h
        refine zo_iald 252 d_Ru_run_251 ev_12 rfl ?_
        refine zi_iconst 3 d_Ru_run_252 rfl ?_
        refine zi_icmp_ne (tgt := 261) d_Ru_run_253 rfl (fun c_13 => ?_) (fun c_13 => ?_)
        · rw [if_neg c_13] at h
          refine zi_aload_n 2 d_Ru_run_261 rfl ?_
          obtain ⟨v_14, ev_14, h⟩ := zbind h
          refine zo_getI 265 zkd_7 5 d_Ru_run_262 ev_14 rfl tw_276 rfl ?_
          refine zi_lo [(0, .ref a0), (1, .ref a1), (2, .ref a2), (3, .ref a3), (4, .int x4), (5, .int x5), (6, .int x6), (7, .int x7), (8, .int x8), (9, .int x9)] [2, 3, 4, 5, 6, 7, 8, 9, 10, 11] rfl ?_
          exact K_Ru_run_b265 n E S r13 r61 a0 a1 a2 a3 x4 x5 x6 x7 x8 x9 v_14 a0 m_11 r M' hr13 hr61 h
        · rw [if_pos c_13] at h
          refine zi_iload 0 d_Ru_run_256 rfl ?_
          refine zi_goto (tgt := 265) d_Ru_run_258 rfl ?_
          refine zi_lo [(0, .ref a0), (1, .ref a1), (2, .ref a2), (3, .ref a3), (4, .int x4), (5, .int x5), (6, .int x6), (7, .int x7), (8, .int x8), (9, .int x9)] [2, 3, 4, 5, 6, 7, 8, 9, 10, 11] rfl ?_
          exact K_Ru_run_b265 n E S r13 r61 a0 a1 a2 a3 x4 x5 x6 x7 x8 x9 q_8.1 a0 m_11 r M' hr13 hr61 h
      · rw [if_neg c_9] at h
        refine zi_iload 6 d_Ru_run_231 rfl ?_
        cases h
        exact zo_ret d_Ru_run_233 (Nat.le_of_ble_eq_true rfl) (Nat.le_of_ble_eq_true rfl) rfl
    · rw [if_pos c_3] at h
      refine zi_iload 5 d_Ru_run_201 rfl ?_
      cases h
      exact zo_ret d_Ru_run_203 (Nat.le_of_ble_eq_true rfl) (Nat.le_of_ble_eq_true rfl) rfl
theorem K_Ru_run_b158 (n : Nat) (E : zE) (S : zS) (r13 : Nat × Nat × Nat × Nat × Int32 × zH → Option (Int32 × zH)) (r61 : Nat × Nat × Nat × Nat × Int32 × Int32 × Int32 × Int32 × Int32 × Int32 × zH → Option (Int32 × zH)) (a0 : Nat) (a1 : Nat) (a2 : Nat) (a3 : Nat) (x4 : Int32) (x5 : Int32) (x6 : Int32) (x7 : Int32) (x8 : Int32) (x9 : Int32) (x10 : Int32) (s0 : Int32) (M : zH) (r : Int32) (M' : zH) (hr13 : ∀ (a0 : Nat) (a1 : Nat) (a2 : Nat) (a3 : Nat) (x4 : Int32) (M : zH), r13 (a0, a1, a2, a3, x4, M) = some (r, M') → zG E Y_Ru_run (some (.int r), S, M') 13 [(0, .ref a0), (1, .ref a1), (2, .ref a2), (3, .ref a3), (4, .int x4)] [] S M 0 0) (hr61 : ∀ (a0 : Nat) (a1 : Nat) (a2 : Nat) (a3 : Nat) (x4 : Int32) (x5 : Int32) (x6 : Int32) (x7 : Int32) (x8 : Int32) (x9 : Int32) (M : zH), r61 (a0, a1, a2, a3, x4, x5, x6, x7, x8, x9, M) = some (r, M') → zG E Y_Ru_run (some (.int r), S, M') 61 [(0, .ref a0), (1, .ref a1), (2, .ref a2), (3, .ref a3), (4, .int x4), (5, .int x5), (6, .int x6), (7, .int x7), (8, .int x8), (9, .int x9)] [] S M 0 0) (h : F_Ru_run_b158 n E S r13 r61 a0 a1 a2 a3 x4 x5 x6 x7 x8 x9 x10 s0 M = some (r, M')) : zG E Y_Ru_run (some (.int r), S, M') 158 [(0, .ref a0), (1, .ref a1), (2, .ref a2), (3, .ref a3), (4, .int x4), (5, .int x5), (6, .int x6), (7, .int x7), (8, .int x8), (9, .int x9), (10, .int x10)] [.int s0] S M 0 0 := by
  unfold F_Ru_run_b158 at h
  refine zi_istore [(11, .int s0), (0, .ref a0), (1, .ref a1), (2, .ref a2), (3, .ref a3), (4, .int x4), (5, .int x5), (6, .int x6), (7, .int x7), (8, .int x8), (9, .int x9), (10, .int x10)] d_Ru_run_158 (by decide) rfl ?_
  refine zi_iload 11 d_Ru_run_160 rfl ?_
  refine zi_if_eq (tgt := 184) d_Ru_run_162 rfl (fun c_15 => ?_) (fun c_15 => ?_)
  · rw [if_pos c_15] at h
    refine zi_iconst 0 d_Ru_run_184 rfl ?_
    refine zi_lo [(0, .ref a0), (1, .ref a1), (2, .ref a2), (3, .ref a3), (4, .int x4), (5, .int x5), (6, .int x6), (7, .int x7), (8, .int x8), (9, .int x9), (11, .int s0)] [1, 2, 3, 4, 5, 6, 7, 8, 9, 10, 0] rfl ?_
    exact K_Ru_run_b185 n E S r13 r61 a0 a1 a2 a3 x4 x5 x6 x7 x8 x9 s0 0 M r M' hr13 hr61 h
  · rw [if_neg c_15] at h
    refine zi_aload_n 1 d_Ru_run_165 rfl ?_
    obtain ⟨b_16, eb_16, h⟩ := zbind h
    refine zo_getR 169 zkd_7 2 d_Ru_run_166 eb_16 rfl tw_272 rfl ?_
    refine zi_aload_n 4 d_Ru_run_169 rfl ?_
    refine zi_iload 7 d_Ru_run_170 rfl ?_
    refine zi_iload 8 d_Ru_run_172 rfl ?_
    refine zi_aload_n 1 d_Ru_run_174 rfl ?_
    obtain ⟨b_17, eb_17, h⟩ := zbind h
    refine zo_getR 178 zkd_7 3 d_Ru_run_175 eb_17 rfl tw_273 rfl ?_
    obtain ⟨u_18, eu_18, h⟩ := zbind h
    obtain ⟨q_19, eq_19, h⟩ := zbind h
    refine zo_virt (k' := 0) (n' := 0) 181 [.ref a3, .int x6, .int x7, .ref b_17] [] [.int q_19.1] zkd_2 (zck_s eu_18) (C_Mc_work n E S b_16 a3 x6 x7 b_17 M q_19.1 q_19.2 eq_19) d_Ru_run_178 tw_430 tw_887 tw_428 tw_429 tw_9 dd_Mc_work ⟨Nat.le_of_ble_eq_true rfl, Nat.le_of_ble_eq_true rfl, Nat.le_of_ble_eq_true rfl, Nat.le_of_ble_eq_true rfl⟩ (Nat.le_of_ble_eq_true rfl) rfl rfl rfl rfl ?_
    refine zi_goto (tgt := 185) d_Ru_run_181 rfl ?_
    refine zi_lo [(0, .ref a0), (1, .ref a1), (2, .ref a2), (3, .ref a3), (4, .int x4), (5, .int x5), (6, .int x6), (7, .int x7), (8, .int x8), (9, .int x9), (11, .int s0)] [1, 2, 3, 4, 5, 6, 7, 8, 9, 10, 0] rfl ?_
    exact K_Ru_run_b185 n E S r13 r61 a0 a1 a2 a3 x4 x5 x6 x7 x8 x9 s0 q_19.1 q_19.2 r M' hr13 hr61 h
theorem K_Ru_run_b131 (n : Nat) (E : zE) (S : zS) (r13 : Nat × Nat × Nat × Nat × Int32 × zH → Option (Int32 × zH)) (r61 : Nat × Nat × Nat × Nat × Int32 × Int32 × Int32 × Int32 × Int32 × Int32 × zH → Option (Int32 × zH)) (a0 : Nat) (a1 : Nat) (a2 : Nat) (a3 : Nat) (x4 : Int32) (x5 : Int32) (x6 : Int32) (x7 : Int32) (x8 : Int32) (x9 : Int32) (s0 : Int32) (M : zH) (r : Int32) (M' : zH) (hr13 : ∀ (a0 : Nat) (a1 : Nat) (a2 : Nat) (a3 : Nat) (x4 : Int32) (M : zH), r13 (a0, a1, a2, a3, x4, M) = some (r, M') → zG E Y_Ru_run (some (.int r), S, M') 13 [(0, .ref a0), (1, .ref a1), (2, .ref a2), (3, .ref a3), (4, .int x4)] [] S M 0 0) (hr61 : ∀ (a0 : Nat) (a1 : Nat) (a2 : Nat) (a3 : Nat) (x4 : Int32) (x5 : Int32) (x6 : Int32) (x7 : Int32) (x8 : Int32) (x9 : Int32) (M : zH), r61 (a0, a1, a2, a3, x4, x5, x6, x7, x8, x9, M) = some (r, M') → zG E Y_Ru_run (some (.int r), S, M') 61 [(0, .ref a0), (1, .ref a1), (2, .ref a2), (3, .ref a3), (4, .int x4), (5, .int x5), (6, .int x6), (7, .int x7), (8, .int x8), (9, .int x9)] [] S M 0 0) (h : F_Ru_run_b131 n E S r13 r61 a0 a1 a2 a3 x4 x5 x6 x7 x8 x9 s0 M = some (r, M')) : zG E Y_Ru_run (some (.int r), S, M') 131 [(0, .ref a0), (1, .ref a1), (2, .ref a2), (3, .ref a3), (4, .int x4), (5, .int x5), (6, .int x6), (7, .int x7), (8, .int x8), (9, .int x9)] [.int s0] S M 0 0 := by
  unfold F_Ru_run_b131 at h
  refine zi_istore [(10, .int s0), (0, .ref a0), (1, .ref a1), (2, .ref a2), (3, .ref a3), (4, .int x4), (5, .int x5), (6, .int x6), (7, .int x7), (8, .int x8), (9, .int x9)] d_Ru_run_131 (by decide) rfl ?_
  refine zi_iload 0 d_Ru_run_133 rfl ?_
  refine zi_if_eq (tgt := 157) d_Ru_run_135 rfl (fun c_20 => ?_) (fun c_20 => ?_)
  · rw [if_pos c_20] at h
    refine zi_iconst 0 d_Ru_run_157 rfl ?_
    refine zi_lo [(0, .ref a0), (1, .ref a1), (2, .ref a2), (3, .ref a3), (4, .int x4), (5, .int x5), (6, .int x6), (7, .int x7), (8, .int x8), (9, .int x9), (10, .int s0)] [1, 2, 3, 4, 5, 6, 7, 8, 9, 10, 0] rfl ?_
    exact K_Ru_run_b158 n E S r13 r61 a0 a1 a2 a3 x4 x5 x6 x7 x8 x9 s0 0 M r M' hr13 hr61 h
  · rw [if_neg c_20] at h
    refine zi_aload_n 1 d_Ru_run_138 rfl ?_
    obtain ⟨b_21, eb_21, h⟩ := zbind h
    refine zo_getR 142 zkd_7 2 d_Ru_run_139 eb_21 rfl tw_272 rfl ?_
    refine zi_aload_n 4 d_Ru_run_142 rfl ?_
    refine zi_iload 6 d_Ru_run_143 rfl ?_
    refine zi_iload 7 d_Ru_run_145 rfl ?_
    refine zi_aload_n 1 d_Ru_run_147 rfl ?_
    obtain ⟨b_22, eb_22, h⟩ := zbind h
    refine zo_getR 151 zkd_7 3 d_Ru_run_148 eb_22 rfl tw_273 rfl ?_
    obtain ⟨u_23, eu_23, h⟩ := zbind h
    obtain ⟨q_24, eq_24, h⟩ := zbind h
    refine zo_virt (k' := 0) (n' := 0) 154 [.ref a3, .int x5, .int x6, .ref b_22] [] [.int q_24.1] zkd_2 (zck_s eu_23) (C_Mc_work n E S b_21 a3 x5 x6 b_22 M q_24.1 q_24.2 eq_24) d_Ru_run_151 tw_430 tw_887 tw_428 tw_429 tw_9 dd_Mc_work ⟨Nat.le_of_ble_eq_true rfl, Nat.le_of_ble_eq_true rfl, Nat.le_of_ble_eq_true rfl, Nat.le_of_ble_eq_true rfl⟩ (Nat.le_of_ble_eq_true rfl) rfl rfl rfl rfl ?_
    refine zi_goto (tgt := 158) d_Ru_run_154 rfl ?_
    refine zi_lo [(0, .ref a0), (1, .ref a1), (2, .ref a2), (3, .ref a3), (4, .int x4), (5, .int x5), (6, .int x6), (7, .int x7), (8, .int x8), (9, .int x9), (10, .int s0)] [1, 2, 3, 4, 5, 6, 7, 8, 9, 10, 0] rfl ?_
    exact K_Ru_run_b158 n E S r13 r61 a0 a1 a2 a3 x4 x5 x6 x7 x8 x9 s0 q_24.1 q_24.2 r M' hr13 hr61 h
theorem K_Ru_run_b115 (n : Nat) (E : zE) (S : zS) (r13 : Nat × Nat × Nat × Nat × Int32 × zH → Option (Int32 × zH)) (r61 : Nat × Nat × Nat × Nat × Int32 × Int32 × Int32 × Int32 × Int32 × Int32 × zH → Option (Int32 × zH)) (a0 : Nat) (a1 : Nat) (a2 : Nat) (a3 : Nat) (x4 : Int32) (x5 : Int32) (x6 : Int32) (x7 : Int32) (x8 : Int32) (x9 : Int32) (M : zH) (r : Int32) (M' : zH) (hr13 : ∀ (a0 : Nat) (a1 : Nat) (a2 : Nat) (a3 : Nat) (x4 : Int32) (M : zH), r13 (a0, a1, a2, a3, x4, M) = some (r, M') → zG E Y_Ru_run (some (.int r), S, M') 13 [(0, .ref a0), (1, .ref a1), (2, .ref a2), (3, .ref a3), (4, .int x4)] [] S M 0 0) (hr61 : ∀ (a0 : Nat) (a1 : Nat) (a2 : Nat) (a3 : Nat) (x4 : Int32) (x5 : Int32) (x6 : Int32) (x7 : Int32) (x8 : Int32) (x9 : Int32) (M : zH), r61 (a0, a1, a2, a3, x4, x5, x6, x7, x8, x9, M) = some (r, M') → zG E Y_Ru_run (some (.int r), S, M') 61 [(0, .ref a0), (1, .ref a1), (2, .ref a2), (3, .ref a3), (4, .int x4), (5, .int x5), (6, .int x6), (7, .int x7), (8, .int x8), (9, .int x9)] [] S M 0 0) (h : F_Ru_run_b115 n E S r13 r61 a0 a1 a2 a3 x4 x5 x6 x7 x8 x9 M = some (r, M')) : zG E Y_Ru_run (some (.int r), S, M') 115 [(0, .ref a0), (1, .ref a1), (2, .ref a2), (3, .ref a3), (4, .int x4), (5, .int x5), (6, .int x6), (7, .int x7), (8, .int x8), (9, .int x9)] [] S M 0 0 := by
  unfold F_Ru_run_b115 at h
  refine zi_aload_n 3 d_Ru_run_115 rfl ?_
  obtain ⟨b_25, eb_25, h⟩ := zbind h
  refine zo_getR 119 zkd_9 1 d_Ru_run_116 eb_25 rfl tw_188 rfl ?_
  refine zi_iload 4 d_Ru_run_119 rfl ?_
  obtain ⟨v_26, ev_26, h⟩ := zbind h
  refine zo_iald 122 d_Ru_run_121 ev_26 rfl ?_
  refine zi_iconst 3 d_Ru_run_122 rfl ?_
  refine zi_icmp_eq (tgt := 130) d_Ru_run_123 rfl (fun c_27 => ?_) (fun c_27 => ?_)
  · rw [if_pos c_27] at h
    refine zi_iconst 0 d_Ru_run_130 rfl ?_
    refine zi_lo [(0, .ref a0), (1, .ref a1), (2, .ref a2), (3, .ref a3), (4, .int x4), (5, .int x5), (6, .int x6), (7, .int x7), (8, .int x8), (9, .int x9)] [0, 1, 2, 3, 4, 5, 6, 7, 8, 9] rfl ?_
    exact K_Ru_run_b131 n E S r13 r61 a0 a1 a2 a3 x4 x5 x6 x7 x8 x9 0 M r M' hr13 hr61 h
  · rw [if_neg c_27] at h
    refine zi_iconst 1 d_Ru_run_126 rfl ?_
    refine zi_goto (tgt := 131) d_Ru_run_127 rfl ?_
    refine zi_lo [(0, .ref a0), (1, .ref a1), (2, .ref a2), (3, .ref a3), (4, .int x4), (5, .int x5), (6, .int x6), (7, .int x7), (8, .int x8), (9, .int x9)] [0, 1, 2, 3, 4, 5, 6, 7, 8, 9] rfl ?_
    exact K_Ru_run_b131 n E S r13 r61 a0 a1 a2 a3 x4 x5 x6 x7 x8 x9 1 M r M' hr13 hr61 h
theorem K_Ru_run_L61 (n : Nat) (E : zE) (S : zS) (r13 : Nat × Nat × Nat × Nat × Int32 × zH → Option (Int32 × zH)) (r61 : Nat × Nat × Nat × Nat × Int32 × Int32 × Int32 × Int32 × Int32 × Int32 × zH → Option (Int32 × zH)) (a0 : Nat) (a1 : Nat) (a2 : Nat) (a3 : Nat) (x4 : Int32) (x5 : Int32) (x6 : Int32) (x7 : Int32) (x8 : Int32) (x9 : Int32) (M : zH) (r : Int32) (M' : zH) (hr13 : ∀ (a0 : Nat) (a1 : Nat) (a2 : Nat) (a3 : Nat) (x4 : Int32) (M : zH), r13 (a0, a1, a2, a3, x4, M) = some (r, M') → zG E Y_Ru_run (some (.int r), S, M') 13 [(0, .ref a0), (1, .ref a1), (2, .ref a2), (3, .ref a3), (4, .int x4)] [] S M 0 0) (hr61 : ∀ (a0 : Nat) (a1 : Nat) (a2 : Nat) (a3 : Nat) (x4 : Int32) (x5 : Int32) (x6 : Int32) (x7 : Int32) (x8 : Int32) (x9 : Int32) (M : zH), r61 (a0, a1, a2, a3, x4, x5, x6, x7, x8, x9, M) = some (r, M') → zG E Y_Ru_run (some (.int r), S, M') 61 [(0, .ref a0), (1, .ref a1), (2, .ref a2), (3, .ref a3), (4, .int x4), (5, .int x5), (6, .int x6), (7, .int x7), (8, .int x8), (9, .int x9)] [] S M 0 0) (h : F_Ru_run_L61 n E S r13 r61 a0 a1 a2 a3 x4 x5 x6 x7 x8 x9 M = some (r, M')) : zG E Y_Ru_run (some (.int r), S, M') 61 [(0, .ref a0), (1, .ref a1), (2, .ref a2), (3, .ref a3), (4, .int x4), (5, .int x5), (6, .int x6), (7, .int x7), (8, .int x8), (9, .int x9)] [] S M 0 0 := by
  unfold F_Ru_run_L61 at h
  refine zi_iload 9 d_Ru_run_61 rfl ?_
  refine zi_aload_n 3 d_Ru_run_63 rfl ?_
  obtain ⟨b_28, eb_28, h⟩ := zbind h
  refine zo_getR 67 zkd_9 2 d_Ru_run_64 eb_28 rfl tw_191 rfl ?_
  refine zi_iload 4 d_Ru_run_67 rfl ?_
  obtain ⟨v_29, ev_29, h⟩ := zbind h
  refine zo_iald 70 d_Ru_run_69 ev_29 rfl ?_
  refine zi_icmp_ge (tgt := 274) d_Ru_run_70 rfl (fun c_30 => ?_) (fun c_30 => ?_)
  · rw [if_pos c_30] at h
    refine zi_iinc 4 (x4 + 1) [(4, .int (x4 + 1)), (0, .ref a0), (1, .ref a1), (2, .ref a2), (3, .ref a3), (5, .int x5), (6, .int x6), (7, .int x7), (8, .int x8), (9, .int x9)] d_Ru_run_274 rfl rfl (by decide) rfl ?_
    refine zi_goto (tgt := 13) d_Ru_run_277 rfl ?_
    refine zi_lo [(0, .ref a0), (1, .ref a1), (2, .ref a2), (3, .ref a3), (4, .int (x4 + 1))] [1, 2, 3, 4, 0] rfl ?_
    exact hr13 a0 a1 a2 a3 (x4 + 1) M h
  · rw [if_neg c_30] at h
    refine zi_aload_n 0 d_Ru_run_73 rfl ?_
    refine zi_aload_n 1 d_Ru_run_74 rfl ?_
    refine zi_aload_n 3 d_Ru_run_75 rfl ?_
    obtain ⟨b_31, eb_31, h⟩ := zbind h
    refine zo_getR 79 zkd_9 3 d_Ru_run_76 eb_31 rfl tw_193 rfl ?_
    refine zi_iload 4 d_Ru_run_79 rfl ?_
    obtain ⟨v_32, ev_32, h⟩ := zbind h
    refine zo_iald 82 d_Ru_run_81 ev_32 rfl ?_
    obtain ⟨u_33, eu_33, h⟩ := zbind h
    obtain ⟨q_34, eq_34, h⟩ := zbind h
    refine zo_virt (k' := 0) (n' := 0) 85 [.ref a1, .int v_32] [] [] zkd_7 (zck_s eu_33) (C_Ru_findWords n E S a0 a1 v_32 M q_34 eq_34) d_Ru_run_82 tw_880 tw_877 tw_879 ts_21 tw_11 dd_Ru_findWords ⟨Nat.le_of_ble_eq_true rfl, Nat.le_of_ble_eq_true rfl, Nat.le_of_ble_eq_true rfl, Nat.le_of_ble_eq_true rfl⟩ (Nat.le_of_ble_eq_true rfl) rfl rfl rfl rfl ?_
    refine zi_iload 7 d_Ru_run_85 rfl ?_
    refine zi_iload 8 d_Ru_run_87 rfl ?_
    refine zi_icmp_ge (tgt := 115) d_Ru_run_89 rfl (fun c_35 => ?_) (fun c_35 => ?_)
    · rw [if_pos c_35] at h
      refine zi_lo [(0, .ref a0), (1, .ref a1), (2, .ref a2), (3, .ref a3), (4, .int x4), (5, .int x5), (6, .int x6), (7, .int x7), (8, .int x8), (9, .int x9)] [0, 1, 2, 3, 4, 5, 6, 7, 8, 9] rfl ?_
      exact K_Ru_run_b115 n E S r13 r61 a0 a1 a2 a3 x4 x5 x6 x7 x8 x9 q_34 r M' hr13 hr61 h
    · rw [if_neg c_35] at h
      refine zi_aload_n 0 d_Ru_run_92 rfl ?_
      obtain ⟨b_36, eb_36, h⟩ := zbind h
      refine zo_getR 96 zkd_7 2 d_Ru_run_93 eb_36 rfl tw_272 rfl ?_
      refine zi_aload_n 3 d_Ru_run_96 rfl ?_
      refine zi_iload 7 d_Ru_run_97 rfl ?_
      refine zi_iload 8 d_Ru_run_99 rfl ?_
      refine zi_aload_n 0 d_Ru_run_101 rfl ?_
      obtain ⟨b_37, eb_37, h⟩ := zbind h
      refine zo_getR 105 zkd_7 3 d_Ru_run_102 eb_37 rfl tw_273 rfl ?_
      obtain ⟨u_38, eu_38, h⟩ := zbind h
      obtain ⟨q_39, eq_39, h⟩ := zbind h
      refine zo_virt (k' := 0) (n' := 0) 108 [.ref a3, .int x7, .int x8, .ref b_37] [] [.int q_39.1] zkd_2 (zck_s eu_38) (C_Mc_work n E S b_36 a3 x7 x8 b_37 q_34 q_39.1 q_39.2 eq_39) d_Ru_run_105 tw_430 tw_887 tw_428 tw_429 tw_9 dd_Mc_work ⟨Nat.le_of_ble_eq_true rfl, Nat.le_of_ble_eq_true rfl, Nat.le_of_ble_eq_true rfl, Nat.le_of_ble_eq_true rfl⟩ (Nat.le_of_ble_eq_true rfl) rfl rfl rfl rfl ?_
      refine zi_iconst 1 d_Ru_run_108 rfl ?_
      refine zi_icmp_eq (tgt := 115) d_Ru_run_109 rfl (fun c_40 => ?_) (fun c_40 => ?_)
      · rw [if_pos c_40] at h
        refine zi_lo [(0, .ref a0), (1, .ref a1), (2, .ref a2), (3, .ref a3), (4, .int x4), (5, .int x5), (6, .int x6), (7, .int x7), (8, .int x8), (9, .int x9)] [0, 1, 2, 3, 4, 5, 6, 7, 8, 9] rfl ?_
        exact K_Ru_run_b115 n E S r13 r61 a0 a1 a2 a3 x4 x5 x6 x7 x8 x9 q_39.2 r M' hr13 hr61 h
      · rw [if_neg c_40] at h
        refine zi_goto (tgt := 268) d_Ru_run_112 rfl ?_
        refine zi_lo [(0, .ref a0), (1, .ref a1), (2, .ref a2), (3, .ref a3), (4, .int x4), (5, .int x5), (6, .int x6), (7, .int x7), (8, .int x8), (9, .int x9)] [0, 1, 2, 3, 4, 5, 6, 7, 8, 9] rfl ?_
        exact K_Ru_run_b268 n E S r13 r61 a0 a1 a2 a3 x4 x5 x6 x7 x8 x9 q_39.2 r M' hr13 hr61 h
theorem K_Ru_run_b61 (n : Nat) (E : zE) (S : zS) (r13 : Nat × Nat × Nat × Nat × Int32 × zH → Option (Int32 × zH)) (a0 : Nat) (a1 : Nat) (a2 : Nat) (a3 : Nat) (x4 : Int32) (x5 : Int32) (x6 : Int32) (x7 : Int32) (x8 : Int32) (x9 : Int32) (M : zH) (r : Int32) (M' : zH) (hr13 : ∀ (a0 : Nat) (a1 : Nat) (a2 : Nat) (a3 : Nat) (x4 : Int32) (M : zH), r13 (a0, a1, a2, a3, x4, M) = some (r, M') → zG E Y_Ru_run (some (.int r), S, M') 13 [(0, .ref a0), (1, .ref a1), (2, .ref a2), (3, .ref a3), (4, .int x4)] [] S M 0 0) (h : F_Ru_run_b61 n E S r13 (a0, a1, a2, a3, x4, x5, x6, x7, x8, x9, M) = some (r, M')) : zG E Y_Ru_run (some (.int r), S, M') 61 [(0, .ref a0), (1, .ref a1), (2, .ref a2), (3, .ref a3), (4, .int x4), (5, .int x5), (6, .int x6), (7, .int x7), (8, .int x8), (9, .int x9)] [] S M 0 0 := by
  have key : ∀ (k : Nat) (a0 : Nat) (a1 : Nat) (a2 : Nat) (a3 : Nat) (x4 : Int32) (x5 : Int32) (x6 : Int32) (x7 : Int32) (x8 : Int32) (x9 : Int32) (M : zH), zfix (fun r61 s => F_Ru_run_L61 n E S r13 r61 s.1 s.2.1 s.2.2.1 s.2.2.2.1 s.2.2.2.2.1 s.2.2.2.2.2.1 s.2.2.2.2.2.2.1 s.2.2.2.2.2.2.2.1 s.2.2.2.2.2.2.2.2.1 s.2.2.2.2.2.2.2.2.2.1 s.2.2.2.2.2.2.2.2.2.2) k (a0, a1, a2, a3, x4, x5, x6, x7, x8, x9, M) = some (r, M') → zG E Y_Ru_run (some (.int r), S, M') 61 [(0, .ref a0), (1, .ref a1), (2, .ref a2), (3, .ref a3), (4, .int x4), (5, .int x5), (6, .int x6), (7, .int x7), (8, .int x8), (9, .int x9)] [] S M 0 0 := by
    intro k
    induction k with
    | zero => intro a0 a1 a2 a3 x4 x5 x6 x7 x8 x9 M h; cases h
    | succ k ih => intro a0 a1 a2 a3 x4 x5 x6 x7 x8 x9 M h; exact K_Ru_run_L61 n E S r13 _ a0 a1 a2 a3 x4 x5 x6 x7 x8 x9 M r M' hr13 (fun a0 a1 a2 a3 x4 x5 x6 x7 x8 x9 M h => ih a0 a1 a2 a3 x4 x5 x6 x7 x8 x9 M h) h
  exact key n a0 a1 a2 a3 x4 x5 x6 x7 x8 x9 M h
theorem K_Ru_run_L13 (n : Nat) (E : zE) (S : zS) (r13 : Nat × Nat × Nat × Nat × Int32 × zH → Option (Int32 × zH)) (a0 : Nat) (a1 : Nat) (a2 : Nat) (a3 : Nat) (x4 : Int32) (M : zH) (r : Int32) (M' : zH) (hr13 : ∀ (a0 : Nat) (a1 : Nat) (a2 : Nat) (a3 : Nat) (x4 : Int32) (M : zH), r13 (a0, a1, a2, a3, x4, M) = some (r, M') → zG E Y_Ru_run (some (.int r), S, M') 13 [(0, .ref a0), (1, .ref a1), (2, .ref a2), (3, .ref a3), (4, .int x4)] [] S M 0 0) (h : F_Ru_run_L13 n E S r13 a0 a1 a2 a3 x4 M = some (r, M')) : zG E Y_Ru_run (some (.int r), S, M') 13 [(0, .ref a0), (1, .ref a1), (2, .ref a2), (3, .ref a3), (4, .int x4)] [] S M 0 0 := by
  unfold F_Ru_run_L13 at h
  refine zi_iload 4 d_Ru_run_13 rfl ?_
  refine zi_aload_n 3 d_Ru_run_15 rfl ?_
  obtain ⟨v_41, ev_41, h⟩ := zbind h
  refine zo_getI 19 zkd_9 6 d_Ru_run_16 ev_41 rfl tw_198 rfl ?_
  refine zi_icmp_ge (tgt := 280) d_Ru_run_19 rfl (fun c_42 => ?_) (fun c_42 => ?_)
  · rw [if_pos c_42] at h
    refine zi_iconst (-1) d_Ru_run_280 rfl ?_
    cases h
    exact zo_ret d_Ru_run_281 (Nat.le_of_ble_eq_true rfl) (Nat.le_of_ble_eq_true rfl) rfl
  · rw [if_neg c_42] at h
    refine zi_aload_n 3 d_Ru_run_22 rfl ?_
    refine zi_iload 4 d_Ru_run_23 rfl ?_
    refine zi_iconst 0 d_Ru_run_25 rfl ?_
    obtain ⟨q_43, eq_43, h⟩ := zbind h
    refine zo_virt (k' := 0) (n' := 0) 29 [.int x4, .int 0] [] [.int q_43.1] zkd_9 (zgI_s ev_41).1 (C_Te_markOf n E S a3 x4 0 M q_43.1 q_43.2 eq_43) d_Ru_run_26 tw_426 tw_876 tw_424 tw_425 tw_7 dd_Te_markOf ⟨Nat.le_of_ble_eq_true rfl, Nat.le_of_ble_eq_true rfl, Nat.le_of_ble_eq_true rfl, Nat.le_of_ble_eq_true rfl⟩ (Nat.le_of_ble_eq_true rfl) rfl rfl rfl rfl ?_
    refine zi_istore [(5, .int q_43.1), (0, .ref a0), (1, .ref a1), (2, .ref a2), (3, .ref a3), (4, .int x4)] d_Ru_run_29 (by decide) rfl ?_
    refine zi_aload_n 4 d_Ru_run_31 rfl ?_
    refine zi_iload 5 d_Ru_run_32 rfl ?_
    refine zi_iconst 1 d_Ru_run_34 rfl ?_
    obtain ⟨q_44, eq_44, h⟩ := zbind h
    refine zo_virt (k' := 0) (n' := 0) 38 [.int x4, .int 1] [] [.int q_44.1] zkd_9 (zgI_s ev_41).1 (C_Te_markOf n E S a3 x4 1 q_43.2 q_44.1 q_44.2 eq_44) d_Ru_run_35 tw_426 tw_876 tw_424 tw_425 tw_7 dd_Te_markOf ⟨Nat.le_of_ble_eq_true rfl, Nat.le_of_ble_eq_true rfl, Nat.le_of_ble_eq_true rfl, Nat.le_of_ble_eq_true rfl⟩ (Nat.le_of_ble_eq_true rfl) rfl rfl rfl rfl ?_
    refine zi_istore [(6, .int q_44.1), (5, .int q_43.1), (0, .ref a0), (1, .ref a1), (2, .ref a2), (3, .ref a3), (4, .int x4)] d_Ru_run_38 (by decide) rfl ?_
    refine zi_aload_n 5 d_Ru_run_40 rfl ?_
    refine zi_iload 6 d_Ru_run_41 rfl ?_
    refine zi_iconst 2 d_Ru_run_43 rfl ?_
    obtain ⟨q_45, eq_45, h⟩ := zbind h
    refine zo_virt (k' := 0) (n' := 0) 47 [.int x4, .int 2] [] [.int q_45.1] zkd_9 (zgI_s ev_41).1 (C_Te_markOf n E S a3 x4 2 q_44.2 q_45.1 q_45.2 eq_45) d_Ru_run_44 tw_426 tw_876 tw_424 tw_425 tw_7 dd_Te_markOf ⟨Nat.le_of_ble_eq_true rfl, Nat.le_of_ble_eq_true rfl, Nat.le_of_ble_eq_true rfl, Nat.le_of_ble_eq_true rfl⟩ (Nat.le_of_ble_eq_true rfl) rfl rfl rfl rfl ?_
    refine zi_istore [(7, .int q_45.1), (6, .int q_44.1), (5, .int q_43.1), (0, .ref a0), (1, .ref a1), (2, .ref a2), (3, .ref a3), (4, .int x4)] d_Ru_run_47 (by decide) rfl ?_
    refine zi_aload_n 6 d_Ru_run_49 rfl ?_
    refine zi_iload 7 d_Ru_run_50 rfl ?_
    refine zi_iconst 3 d_Ru_run_52 rfl ?_
    obtain ⟨q_46, eq_46, h⟩ := zbind h
    refine zo_virt (k' := 0) (n' := 0) 56 [.int x4, .int 3] [] [.int q_46.1] zkd_9 (zgI_s ev_41).1 (C_Te_markOf n E S a3 x4 3 q_45.2 q_46.1 q_46.2 eq_46) d_Ru_run_53 tw_426 tw_876 tw_424 tw_425 tw_7 dd_Te_markOf ⟨Nat.le_of_ble_eq_true rfl, Nat.le_of_ble_eq_true rfl, Nat.le_of_ble_eq_true rfl, Nat.le_of_ble_eq_true rfl⟩ (Nat.le_of_ble_eq_true rfl) rfl rfl rfl rfl ?_
    refine zi_istore [(8, .int q_46.1), (7, .int q_45.1), (6, .int q_44.1), (5, .int q_43.1), (0, .ref a0), (1, .ref a1), (2, .ref a2), (3, .ref a3), (4, .int x4)] d_Ru_run_56 (by decide) rfl ?_
    refine zi_iconst 0 d_Ru_run_58 rfl ?_
    refine zi_istore [(9, .int 0), (8, .int q_46.1), (7, .int q_45.1), (6, .int q_44.1), (5, .int q_43.1), (0, .ref a0), (1, .ref a1), (2, .ref a2), (3, .ref a3), (4, .int x4)] d_Ru_run_59 (by decide) rfl ?_
    refine zi_lo [(0, .ref a0), (1, .ref a1), (2, .ref a2), (3, .ref a3), (4, .int x4), (5, .int q_43.1), (6, .int q_44.1), (7, .int q_45.1), (8, .int q_46.1), (9, .int 0)] [5, 6, 7, 8, 9, 4, 3, 2, 1, 0] rfl ?_
    exact K_Ru_run_b61 n E S r13 a0 a1 a2 a3 x4 q_43.1 q_44.1 q_45.1 q_46.1 0 q_46.2 r M' hr13 h
theorem K_Ru_run_b13 (n : Nat) (E : zE) (S : zS) (a0 : Nat) (a1 : Nat) (a2 : Nat) (a3 : Nat) (x4 : Int32) (M : zH) (r : Int32) (M' : zH)  (h : F_Ru_run_b13 n E S (a0, a1, a2, a3, x4, M) = some (r, M')) : zG E Y_Ru_run (some (.int r), S, M') 13 [(0, .ref a0), (1, .ref a1), (2, .ref a2), (3, .ref a3), (4, .int x4)] [] S M 0 0 := by
  have key : ∀ (k : Nat) (a0 : Nat) (a1 : Nat) (a2 : Nat) (a3 : Nat) (x4 : Int32) (M : zH), zfix (fun r13 s => F_Ru_run_L13 n E S r13 s.1 s.2.1 s.2.2.1 s.2.2.2.1 s.2.2.2.2.1 s.2.2.2.2.2) k (a0, a1, a2, a3, x4, M) = some (r, M') → zG E Y_Ru_run (some (.int r), S, M') 13 [(0, .ref a0), (1, .ref a1), (2, .ref a2), (3, .ref a3), (4, .int x4)] [] S M 0 0 := by
    intro k
    induction k with
    | zero => intro a0 a1 a2 a3 x4 M h; cases h
    | succ k ih => intro a0 a1 a2 a3 x4 M h; exact K_Ru_run_L13 n E S _ a0 a1 a2 a3 x4 M r M'  (fun a0 a1 a2 a3 x4 M h => ih a0 a1 a2 a3 x4 M h) h
  exact key n a0 a1 a2 a3 x4 M h
theorem K_Ru_run (n : Nat) (E : zE) (S : zS) (a0 : Nat) (a1 : Nat) (a2 : Nat) (a3 : Nat) (M : zH) (r : Int32) (M' : zH)  (h : F_Ru_run n E S a0 a1 a2 a3 M = some (r, M')) : zG E Y_Ru_run (some (.int r), S, M') 0 [(0, .ref a0), (1, .ref a1), (2, .ref a2), (3, .ref a3)] [] S M 0 0 := by
  unfold F_Ru_run at h
  refine zi_aload_n 0 d_Ru_run_0 rfl ?_
  refine zi_iconst 0 d_Ru_run_1 rfl ?_
  obtain ⟨m_47, em_47, h⟩ := zbind h
  refine zo_putI 5 zkd_7 4 d_Ru_run_2 em_47 rfl rfl rfl tw_274 rfl ?_
  refine zi_aload_n 0 d_Ru_run_5 rfl ?_
  refine zi_iconst (-1) d_Ru_run_6 rfl ?_
  obtain ⟨m_48, em_48, h⟩ := zbind h
  refine zo_putI 10 zkd_7 5 d_Ru_run_7 em_48 rfl rfl rfl tw_276 rfl ?_
  refine zi_iconst 0 d_Ru_run_10 rfl ?_
  refine zi_istore [(4, .int 0), (0, .ref a0), (1, .ref a1), (2, .ref a2), (3, .ref a3)] d_Ru_run_11 (by decide) rfl ?_
  refine zi_lo [(0, .ref a0), (1, .ref a1), (2, .ref a2), (3, .ref a3), (4, .int 0)] [1, 2, 3, 4, 0] rfl ?_
  exact K_Ru_run_b13 n E S a0 a1 a2 a3 0 m_48 r M'  h
theorem C_Ru_run (n : Nat) (E : zE) (S : zS) (a0 : Nat) (a1 : Nat) (a2 : Nat) (a3 : Nat) (M : zH) (r : Int32) (M' : zH) (h : F_Ru_run n E S a0 a1 a2 a3 M = some (r, M')) : zC E Y_Ru_run [.ref a0, .ref a1, .ref a2, .ref a3] S M (some (.int r), S, M') :=
  zC.of (Or.inl (show plainName "NightColander$Runner" = true by decide)) (Nat.le_of_ble_eq_true rfl) (trivial) (K_Ru_run n E S a0 a1 a2 a3 M r M' h)
theorem d_NC_orders_0 : decode (yB Y_NC_orders) 0 = .ok (.aload_n 0, 1) := by decide +kernel
theorem d_NC_orders_1 : decode (yB Y_NC_orders) 1 = .ok (.iconst (-1), 1) := by decide +kernel
theorem d_NC_orders_2 : decode (yB Y_NC_orders) 2 = .ok (.putfield 108, 3) := by decide +kernel
theorem d_NC_orders_5 : decode (yB Y_NC_orders) 5 = .ok (.aload_n 0, 1) := by decide +kernel
theorem d_NC_orders_6 : decode (yB Y_NC_orders) 6 = .ok (.aload_n 0, 1) := by decide +kernel
theorem d_NC_orders_7 : decode (yB Y_NC_orders) 7 = .ok (.getfield 54, 3) := by decide +kernel
theorem d_NC_orders_10 : decode (yB Y_NC_orders) 10 = .ok (.iconst 1, 1) := by decide +kernel
theorem d_NC_orders_11 : decode (yB Y_NC_orders) 11 = .ok (.invokevirtual 211, 3) := by decide +kernel
theorem d_NC_orders_14 : decode (yB Y_NC_orders) 14 = .ok (.putfield 105, 3) := by decide +kernel
theorem d_NC_orders_17 : decode (yB Y_NC_orders) 17 = .ok (.aload_n 0, 1) := by decide +kernel
theorem d_NC_orders_18 : decode (yB Y_NC_orders) 18 = .ok (.getfield 45, 3) := by decide +kernel
theorem d_NC_orders_21 : decode (yB Y_NC_orders) 21 = .ok (.iconst 0, 1) := by decide +kernel
theorem d_NC_orders_22 : decode (yB Y_NC_orders) 22 = .ok (.putfield 202, 3) := by decide +kernel
theorem d_NC_orders_25 : decode (yB Y_NC_orders) 25 = .ok (.aload_n 0, 1) := by decide +kernel
theorem d_NC_orders_26 : decode (yB Y_NC_orders) 26 = .ok (.getfield 105, 3) := by decide +kernel
theorem d_NC_orders_29 : decode (yB Y_NC_orders) 29 = .ok (.iconst (-1), 1) := by decide +kernel
theorem d_NC_orders_30 : decode (yB Y_NC_orders) 30 = .ok (.if_icmp .eq 10, 3) := by decide +kernel
theorem d_NC_orders_33 : decode (yB Y_NC_orders) 33 = .ok (.aload_n 0, 1) := by decide +kernel
theorem d_NC_orders_34 : decode (yB Y_NC_orders) 34 = .ok (.bipush (-6), 2) := by decide +kernel
theorem d_NC_orders_36 : decode (yB Y_NC_orders) 36 = .ok (.invokevirtual 136, 3) := by decide +kernel
theorem d_NC_orders_39 : decode (yB Y_NC_orders) 39 = .ok (.ireturn, 1) := by decide +kernel
theorem d_NC_orders_40 : decode (yB Y_NC_orders) 40 = .ok (.aload_n 0, 1) := by decide +kernel
theorem d_NC_orders_41 : decode (yB Y_NC_orders) 41 = .ok (.getfield 29, 3) := by decide +kernel
theorem d_NC_orders_44 : decode (yB Y_NC_orders) 44 = .ok (.aload_n 0, 1) := by decide +kernel
theorem d_NC_orders_45 : decode (yB Y_NC_orders) 45 = .ok (.getfield 12, 3) := by decide +kernel
theorem d_NC_orders_48 : decode (yB Y_NC_orders) 48 = .ok (.invokevirtual 229, 3) := by decide +kernel
theorem d_NC_orders_51 : decode (yB Y_NC_orders) 51 = .ok (.aload_n 0, 1) := by decide +kernel
theorem d_NC_orders_52 : decode (yB Y_NC_orders) 52 = .ok (.getfield 39, 3) := by decide +kernel
theorem d_NC_orders_55 : decode (yB Y_NC_orders) 55 = .ok (.aload_n 0, 1) := by decide +kernel
theorem d_NC_orders_56 : decode (yB Y_NC_orders) 56 = .ok (.getfield 35, 3) := by decide +kernel
theorem d_NC_orders_59 : decode (yB Y_NC_orders) 59 = .ok (.invokevirtual 233, 3) := by decide +kernel
theorem d_NC_orders_62 : decode (yB Y_NC_orders) 62 = .ok (.aload_n 0, 1) := by decide +kernel
theorem d_NC_orders_63 : decode (yB Y_NC_orders) 63 = .ok (.aload_n 0, 1) := by decide +kernel
theorem d_NC_orders_64 : decode (yB Y_NC_orders) 64 = .ok (.getfield 79, 3) := by decide +kernel
theorem d_NC_orders_67 : decode (yB Y_NC_orders) 67 = .ok (.aload_n 0, 1) := by decide +kernel
theorem d_NC_orders_68 : decode (yB Y_NC_orders) 68 = .ok (.getfield 12, 3) := by decide +kernel
theorem d_NC_orders_71 : decode (yB Y_NC_orders) 71 = .ok (.aload_n 0, 1) := by decide +kernel
theorem d_NC_orders_72 : decode (yB Y_NC_orders) 72 = .ok (.getfield 35, 3) := by decide +kernel
theorem d_NC_orders_75 : decode (yB Y_NC_orders) 75 = .ok (.aload_n 0, 1) := by decide +kernel
theorem d_NC_orders_76 : decode (yB Y_NC_orders) 76 = .ok (.getfield 54, 3) := by decide +kernel
theorem d_NC_orders_79 : decode (yB Y_NC_orders) 79 = .ok (.getfield 215, 3) := by decide +kernel
theorem d_NC_orders_82 : decode (yB Y_NC_orders) 82 = .ok (.invokevirtual 236, 3) := by decide +kernel
theorem d_NC_orders_85 : decode (yB Y_NC_orders) 85 = .ok (.putfield 108, 3) := by decide +kernel
theorem d_NC_orders_88 : decode (yB Y_NC_orders) 88 = .ok (.aload_n 0, 1) := by decide +kernel
theorem d_NC_orders_89 : decode (yB Y_NC_orders) 89 = .ok (.getfield 108, 3) := by decide +kernel
theorem d_NC_orders_92 : decode (yB Y_NC_orders) 92 = .ok (.iconst (-1), 1) := by decide +kernel
theorem d_NC_orders_93 : decode (yB Y_NC_orders) 93 = .ok (.if_icmp .eq 32, 3) := by decide +kernel
theorem d_NC_orders_96 : decode (yB Y_NC_orders) 96 = .ok (.aload_n 0, 1) := by decide +kernel
theorem d_NC_orders_97 : decode (yB Y_NC_orders) 97 = .ok (.getfield 12, 3) := by decide +kernel
theorem d_NC_orders_100 : decode (yB Y_NC_orders) 100 = .ok (.aload_n 0, 1) := by decide +kernel
theorem d_NC_orders_101 : decode (yB Y_NC_orders) 101 = .ok (.getfield 29, 3) := by decide +kernel
theorem d_NC_orders_104 : decode (yB Y_NC_orders) 104 = .ok (.invokevirtual 229, 3) := by decide +kernel
theorem d_NC_orders_107 : decode (yB Y_NC_orders) 107 = .ok (.aload_n 0, 1) := by decide +kernel
theorem d_NC_orders_108 : decode (yB Y_NC_orders) 108 = .ok (.getfield 35, 3) := by decide +kernel
theorem d_NC_orders_111 : decode (yB Y_NC_orders) 111 = .ok (.aload_n 0, 1) := by decide +kernel
theorem d_NC_orders_112 : decode (yB Y_NC_orders) 112 = .ok (.getfield 39, 3) := by decide +kernel
theorem d_NC_orders_115 : decode (yB Y_NC_orders) 115 = .ok (.invokevirtual 233, 3) := by decide +kernel
theorem d_NC_orders_118 : decode (yB Y_NC_orders) 118 = .ok (.aload_n 0, 1) := by decide +kernel
theorem d_NC_orders_119 : decode (yB Y_NC_orders) 119 = .ok (.bipush (-3), 2) := by decide +kernel
theorem d_NC_orders_121 : decode (yB Y_NC_orders) 121 = .ok (.invokevirtual 136, 3) := by decide +kernel
theorem d_NC_orders_124 : decode (yB Y_NC_orders) 124 = .ok (.ireturn, 1) := by decide +kernel
theorem d_NC_orders_125 : decode (yB Y_NC_orders) 125 = .ok (.aload_n 0, 1) := by decide +kernel
theorem d_NC_orders_126 : decode (yB Y_NC_orders) 126 = .ok (.aload_n 0, 1) := by decide +kernel
theorem d_NC_orders_127 : decode (yB Y_NC_orders) 127 = .ok (.getfield 79, 3) := by decide +kernel
theorem d_NC_orders_130 : decode (yB Y_NC_orders) 130 = .ok (.getfield 240, 3) := by decide +kernel
theorem d_NC_orders_133 : decode (yB Y_NC_orders) 133 = .ok (.invokevirtual 146, 3) := by decide +kernel
theorem d_NC_orders_136 : decode (yB Y_NC_orders) 136 = .ok (.ireturn, 1) := by decide +kernel
def F_NC_orders (n : Nat) (E : zE) (S : zS) (a0 : Nat) (M : zH) : Option (Int32 × zH) :=
  (zpI S M a0 10 18 (-1)).bind fun m_1 =>
  (zgR S a0 10 8).bind fun b_2 =>
  (zck S b_2 5).bind fun u_3 =>
  (F_Ps_parse n E S b_2 1 m_1).bind fun q_4 =>
  (zpI S q_4.2 a0 10 17 q_4.1).bind fun m_5 =>
  (zgR S a0 10 7).bind fun b_6 =>
  (zpI S m_5 b_6 8 1 0).bind fun m_7 =>
  (zgI S m_7 a0 10 17).bind fun v_8 =>
  if v_8 = (-1) then
    (zgR S a0 10 4).bind fun b_10 =>
    (zgR S a0 10 0).bind fun b_11 =>
    (zck S b_10 3).bind fun u_12 =>
    (F_Ni_copyFrom n E S b_10 b_11 m_7).bind fun q_13 =>
    (zgR S a0 10 6).bind fun b_14 =>
    (zgR S a0 10 5).bind fun b_15 =>
    (zck S b_14 6).bind fun u_16 =>
    (F_Pt_copyFrom n E S b_14 b_15 q_13).bind fun q_17 =>
    (zgR S a0 10 11).bind fun b_18 =>
    (zgR S b_2 5 0).bind fun b_19 =>
    (zck S b_18 7).bind fun u_20 =>
    (F_Ru_run n E S b_18 b_11 b_15 b_19 q_17).bind fun q_21 =>
    (zpI S q_21.2 a0 10 18 q_21.1).bind fun m_22 =>
    (zgI S m_22 a0 10 18).bind fun v_23 =>
    if v_23 = (-1) then
      (zgI S m_22 b_18 7 4).bind fun v_25 =>
      (F_NC_accept n E S a0 v_25 m_22).bind fun q_26 =>
      some (q_26.1, q_26.2)
    else
      (zck S b_11 3).bind fun u_27 =>
      (F_Ni_copyFrom n E S b_11 b_10 m_22).bind fun q_28 =>
      (zck S b_15 6).bind fun u_29 =>
      (F_Pt_copyFrom n E S b_15 b_14 q_28).bind fun q_30 =>
      (F_NC_refuse n E S a0 (-3) q_30).bind fun q_31 =>
      some (q_31.1, q_31.2)
  else
    (F_NC_refuse n E S a0 (-6) m_7).bind fun q_32 =>
    some (q_32.1, q_32.2)
theorem K_NC_orders (n : Nat) (E : zE) (S : zS) (a0 : Nat) (M : zH) (r : Int32) (M' : zH)  (h : F_NC_orders n E S a0 M = some (r, M')) : zG E Y_NC_orders (some (.int r), S, M') 0 [(0, .ref a0)] [] S M 0 0 := by
  unfold F_NC_orders at h
  refine zi_aload_n 0 d_NC_orders_0 rfl ?_
  refine zi_iconst (-1) d_NC_orders_1 rfl ?_
  obtain ⟨m_1, em_1, h⟩ := zbind h
  refine zo_putI 5 zkd_10 18 d_NC_orders_2 em_1 rfl rfl rfl tw_350 rfl ?_
  refine zi_aload_n 0 d_NC_orders_5 rfl ?_
  refine zi_aload_n 0 d_NC_orders_6 rfl ?_
  obtain ⟨b_2, eb_2, h⟩ := zbind h
  refine zo_getR 10 zkd_10 8 d_NC_orders_7 eb_2 rfl tw_340 rfl ?_
  refine zi_iconst 1 d_NC_orders_10 rfl ?_
  obtain ⟨u_3, eu_3, h⟩ := zbind h
  obtain ⟨q_4, eq_4, h⟩ := zbind h
  refine zo_virt (k' := 0) (n' := 0) 14 [.int 1] [.ref a0] [.int q_4.1, .ref a0] zkd_5 (zck_s eu_3) (C_Ps_parse n E S b_2 1 m_1 q_4.1 q_4.2 eq_4) d_NC_orders_11 tw_563 tw_560 tw_561 tw_562 tw_6 dd_Ps_parse ⟨Nat.le_of_ble_eq_true rfl, Nat.le_of_ble_eq_true rfl, Nat.le_of_ble_eq_true rfl, Nat.le_of_ble_eq_true rfl⟩ (Nat.le_of_ble_eq_true rfl) rfl rfl rfl rfl ?_
  obtain ⟨m_5, em_5, h⟩ := zbind h
  refine zo_putI 17 zkd_10 17 d_NC_orders_14 em_5 rfl rfl rfl tw_349 rfl ?_
  refine zi_aload_n 0 d_NC_orders_17 rfl ?_
  obtain ⟨b_6, eb_6, h⟩ := zbind h
  refine zo_getR 21 zkd_10 7 d_NC_orders_18 eb_6 rfl tw_339 rfl ?_
  refine zi_iconst 0 d_NC_orders_21 rfl ?_
  obtain ⟨m_7, em_7, h⟩ := zbind h
  refine zo_putI 25 zkd_8 1 d_NC_orders_22 em_7 rfl rfl rfl tw_154 rfl ?_
  refine zi_aload_n 0 d_NC_orders_25 rfl ?_
  obtain ⟨v_8, ev_8, h⟩ := zbind h
  refine zo_getI 29 zkd_10 17 d_NC_orders_26 ev_8 rfl tw_349 rfl ?_
  refine zi_iconst (-1) d_NC_orders_29 rfl ?_
  refine zi_icmp_eq (tgt := 40) d_NC_orders_30 rfl (fun c_9 => ?_) (fun c_9 => ?_)
  · rw [if_pos c_9] at h
    refine zi_aload_n 0 d_NC_orders_40 rfl ?_
    obtain ⟨b_10, eb_10, h⟩ := zbind h
    refine zo_getR 44 zkd_10 4 d_NC_orders_41 eb_10 rfl tw_336 rfl ?_
    refine zi_aload_n 0 d_NC_orders_44 rfl ?_
    obtain ⟨b_11, eb_11, h⟩ := zbind h
    refine zo_getR 48 zkd_10 0 d_NC_orders_45 eb_11 rfl tw_332 rfl ?_
    obtain ⟨u_12, eu_12, h⟩ := zbind h
    obtain ⟨q_13, eq_13, h⟩ := zbind h
    refine zo_virt (k' := 0) (n' := 0) 51 [.ref b_11] [] [] zkd_3 (zck_s eu_12) (C_Ni_copyFrom n E S b_10 b_11 m_7 q_13 eq_13) d_NC_orders_48 tw_865 tw_862 tw_863 tw_864 tw_2 dd_Ni_copyFrom ⟨Nat.le_of_ble_eq_true rfl, Nat.le_of_ble_eq_true rfl, Nat.le_of_ble_eq_true rfl, Nat.le_of_ble_eq_true rfl⟩ (Nat.le_of_ble_eq_true rfl) rfl rfl rfl rfl ?_
    refine zi_aload_n 0 d_NC_orders_51 rfl ?_
    obtain ⟨b_14, eb_14, h⟩ := zbind h
    refine zo_getR 55 zkd_10 6 d_NC_orders_52 eb_14 rfl tw_338 rfl ?_
    refine zi_aload_n 0 d_NC_orders_55 rfl ?_
    obtain ⟨b_15, eb_15, h⟩ := zbind h
    refine zo_getR 59 zkd_10 5 d_NC_orders_56 eb_15 rfl tw_337 rfl ?_
    obtain ⟨u_16, eu_16, h⟩ := zbind h
    obtain ⟨q_17, eq_17, h⟩ := zbind h
    refine zo_virt (k' := 0) (n' := 0) 62 [.ref b_15] [] [] zkd_6 (zck_s eu_16) (C_Pt_copyFrom n E S b_14 b_15 q_13 q_17 eq_17) d_NC_orders_59 tw_870 tw_867 tw_868 tw_869 tw_4 dd_Pt_copyFrom ⟨Nat.le_of_ble_eq_true rfl, Nat.le_of_ble_eq_true rfl, Nat.le_of_ble_eq_true rfl, Nat.le_of_ble_eq_true rfl⟩ (Nat.le_of_ble_eq_true rfl) rfl rfl rfl rfl ?_
    refine zi_aload_n 0 d_NC_orders_62 rfl ?_
    refine zi_aload_n 0 d_NC_orders_63 rfl ?_
    obtain ⟨b_18, eb_18, h⟩ := zbind h
    refine zo_getR 67 zkd_10 11 d_NC_orders_64 eb_18 rfl tw_343 rfl ?_
    refine zi_aload_n 0 d_NC_orders_67 rfl ?_
    refine zo_getR 71 zkd_10 0 d_NC_orders_68 eb_11 rfl tw_332 rfl ?_
    refine zi_aload_n 0 d_NC_orders_71 rfl ?_
    refine zo_getR 75 zkd_10 5 d_NC_orders_72 eb_15 rfl tw_337 rfl ?_
    refine zi_aload_n 0 d_NC_orders_75 rfl ?_
    refine zo_getR 79 zkd_10 8 d_NC_orders_76 eb_2 rfl tw_340 rfl ?_
    obtain ⟨b_19, eb_19, h⟩ := zbind h
    refine zo_getR 82 zkd_5 0 d_NC_orders_79 eb_19 rfl tw_216 rfl ?_
    obtain ⟨u_20, eu_20, h⟩ := zbind h
    obtain ⟨q_21, eq_21, h⟩ := zbind h
    refine zo_virt (k' := 0) (n' := 0) 85 [.ref b_11, .ref b_15, .ref b_19] [.ref a0] [.int q_21.1, .ref a0] zkd_7 (zck_s eu_20) (C_Ru_run n E S b_18 b_11 b_15 b_19 q_17 q_21.1 q_21.2 eq_21) d_NC_orders_82 tw_875 tw_872 tw_873 tw_874 tw_11 dd_Ru_run ⟨Nat.le_of_ble_eq_true rfl, Nat.le_of_ble_eq_true rfl, Nat.le_of_ble_eq_true rfl, Nat.le_of_ble_eq_true rfl⟩ (Nat.le_of_ble_eq_true rfl) rfl rfl rfl rfl ?_
    obtain ⟨m_22, em_22, h⟩ := zbind h
    refine zo_putI 88 zkd_10 18 d_NC_orders_85 em_22 rfl rfl rfl tw_350 rfl ?_
    refine zi_aload_n 0 d_NC_orders_88 rfl ?_
    obtain ⟨v_23, ev_23, h⟩ := zbind h
    refine zo_getI 92 zkd_10 18 d_NC_orders_89 ev_23 rfl tw_350 rfl ?_
    refine zi_iconst (-1) d_NC_orders_92 rfl ?_
    refine zi_icmp_eq (tgt := 125) d_NC_orders_93 rfl (fun c_24 => ?_) (fun c_24 => ?_)
    · rw [if_pos c_24] at h
      refine zi_aload_n 0 d_NC_orders_125 rfl ?_
      refine zi_aload_n 0 d_NC_orders_126 rfl ?_
      refine zo_getR 130 zkd_10 11 d_NC_orders_127 eb_18 rfl tw_343 rfl ?_
      obtain ⟨v_25, ev_25, h⟩ := zbind h
      refine zo_getI 133 zkd_7 4 d_NC_orders_130 ev_25 rfl tw_275 rfl ?_
      obtain ⟨q_26, eq_26, h⟩ := zbind h
      refine zo_virt (k' := 0) (n' := 0) 136 [.int v_25] [] [.int q_26.1] zkd_10 (zgR_s eb_2).1 (C_NC_accept n E S a0 v_25 m_22 q_26.1 q_26.2 eq_26) d_NC_orders_133 tw_456 tw_453 tw_455 ts_2 tw_1 dd_NC_accept ⟨Nat.le_of_ble_eq_true rfl, Nat.le_of_ble_eq_true rfl, Nat.le_of_ble_eq_true rfl, Nat.le_of_ble_eq_true rfl⟩ (Nat.le_of_ble_eq_true rfl) rfl rfl rfl rfl ?_
      cases h
      exact zo_ret d_NC_orders_136 (Nat.le_of_ble_eq_true rfl) (Nat.le_of_ble_eq_true rfl) rfl
    · rw [if_neg c_24] at h
      refine zi_aload_n 0 d_NC_orders_96 rfl ?_
      refine zo_getR 100 zkd_10 0 d_NC_orders_97 eb_11 rfl tw_332 rfl ?_
      refine zi_aload_n 0 d_NC_orders_100 rfl ?_
      refine zo_getR 104 zkd_10 4 d_NC_orders_101 eb_10 rfl tw_336 rfl ?_
      obtain ⟨u_27, eu_27, h⟩ := zbind h
      obtain ⟨q_28, eq_28, h⟩ := zbind h
      refine zo_virt (k' := 0) (n' := 0) 107 [.ref b_10] [] [] zkd_3 (zck_s eu_27) (C_Ni_copyFrom n E S b_11 b_10 m_22 q_28 eq_28) d_NC_orders_104 tw_865 tw_862 tw_863 tw_864 tw_2 dd_Ni_copyFrom ⟨Nat.le_of_ble_eq_true rfl, Nat.le_of_ble_eq_true rfl, Nat.le_of_ble_eq_true rfl, Nat.le_of_ble_eq_true rfl⟩ (Nat.le_of_ble_eq_true rfl) rfl rfl rfl rfl ?_
      refine zi_aload_n 0 d_NC_orders_107 rfl ?_
      refine zo_getR 111 zkd_10 5 d_NC_orders_108 eb_15 rfl tw_337 rfl ?_
      refine zi_aload_n 0 d_NC_orders_111 rfl ?_
      refine zo_getR 115 zkd_10 6 d_NC_orders_112 eb_14 rfl tw_338 rfl ?_
      obtain ⟨u_29, eu_29, h⟩ := zbind h
      obtain ⟨q_30, eq_30, h⟩ := zbind h
      refine zo_virt (k' := 0) (n' := 0) 118 [.ref b_14] [] [] zkd_6 (zck_s eu_29) (C_Pt_copyFrom n E S b_15 b_14 q_28 q_30 eq_30) d_NC_orders_115 tw_870 tw_867 tw_868 tw_869 tw_4 dd_Pt_copyFrom ⟨Nat.le_of_ble_eq_true rfl, Nat.le_of_ble_eq_true rfl, Nat.le_of_ble_eq_true rfl, Nat.le_of_ble_eq_true rfl⟩ (Nat.le_of_ble_eq_true rfl) rfl rfl rfl rfl ?_
      refine zi_aload_n 0 d_NC_orders_118 rfl ?_
      refine zi_bipush (-3) d_NC_orders_119 rfl ?_
      obtain ⟨q_31, eq_31, h⟩ := zbind h
      refine zo_virt (k' := 0) (n' := 0) 124 [.int (-3)] [] [.int q_31.1] zkd_10 (zgR_s eb_2).1 (C_NC_refuse n E S a0 (-3) q_30 q_31.1 q_31.2 eq_31) d_NC_orders_121 tw_448 tw_445 tw_447 ts_1 tw_1 dd_NC_refuse ⟨Nat.le_of_ble_eq_true rfl, Nat.le_of_ble_eq_true rfl, Nat.le_of_ble_eq_true rfl, Nat.le_of_ble_eq_true rfl⟩ (Nat.le_of_ble_eq_true rfl) rfl rfl rfl rfl ?_
      cases h
      exact zo_ret d_NC_orders_124 (Nat.le_of_ble_eq_true rfl) (Nat.le_of_ble_eq_true rfl) rfl
  · rw [if_neg c_9] at h
    refine zi_aload_n 0 d_NC_orders_33 rfl ?_
    refine zi_bipush (-6) d_NC_orders_34 rfl ?_
    obtain ⟨q_32, eq_32, h⟩ := zbind h
    refine zo_virt (k' := 0) (n' := 0) 39 [.int (-6)] [] [.int q_32.1] zkd_10 (zgR_s eb_2).1 (C_NC_refuse n E S a0 (-6) m_7 q_32.1 q_32.2 eq_32) d_NC_orders_36 tw_448 tw_445 tw_447 ts_1 tw_1 dd_NC_refuse ⟨Nat.le_of_ble_eq_true rfl, Nat.le_of_ble_eq_true rfl, Nat.le_of_ble_eq_true rfl, Nat.le_of_ble_eq_true rfl⟩ (Nat.le_of_ble_eq_true rfl) rfl rfl rfl rfl ?_
    cases h
    exact zo_ret d_NC_orders_39 (Nat.le_of_ble_eq_true rfl) (Nat.le_of_ble_eq_true rfl) rfl
theorem C_NC_orders (n : Nat) (E : zE) (S : zS) (a0 : Nat) (M : zH) (r : Int32) (M' : zH) (h : F_NC_orders n E S a0 M = some (r, M')) : zC E Y_NC_orders [.ref a0] S M (some (.int r), S, M') :=
  zC.of (Or.inl (show plainName "NightColander" = true by decide)) (Nat.le_of_ble_eq_true rfl) (trivial) (K_NC_orders n E S a0 M r M' h)
