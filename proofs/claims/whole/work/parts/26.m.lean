/-! METHODS (printed by gen/build.py): Ja_copyOf Te_init1 Te_copy NC_law Ni_copyFrom Pt_copyFrom De_changeBlock Ni_turnAll De_letHourPass De_move De_refusalOf De_widen -/
theorem d_Ja_copyOf_0 : decode (yB Y_Ja_copyOf) 0 = .ok (.iload_n 1, 1) := by decide +kernel
theorem d_Ja_copyOf_1 : decode (yB Y_Ja_copyOf) 1 = .ok (.aload_n 0, 1) := by decide +kernel
theorem d_Ja_copyOf_2 : decode (yB Y_Ja_copyOf) 2 = .ok (.arraylength, 1) := by decide +kernel
theorem d_Ja_copyOf_3 : decode (yB Y_Ja_copyOf) 3 = .ok (.if_icmp .ne 11, 3) := by decide +kernel
theorem d_Ja_copyOf_6 : decode (yB Y_Ja_copyOf) 6 = .ok (.aload_n 0, 1) := by decide +kernel
theorem d_Ja_copyOf_7 : decode (yB Y_Ja_copyOf) 7 = .ok (.invokevirtual 316, 3) := by decide +kernel
theorem d_Ja_copyOf_10 : decode (yB Y_Ja_copyOf) 10 = .ok (.checkcast 317, 3) := by decide +kernel
theorem d_Ja_copyOf_13 : decode (yB Y_Ja_copyOf) 13 = .ok (.areturn, 1) := by decide +kernel
theorem d_Ja_copyOf_14 : decode (yB Y_Ja_copyOf) 14 = .ok (.iload_n 1, 1) := by decide +kernel
theorem d_Ja_copyOf_15 : decode (yB Y_Ja_copyOf) 15 = .ok (.newarray .int, 2) := by decide +kernel
theorem d_Ja_copyOf_17 : decode (yB Y_Ja_copyOf) 17 = .ok (.astore_n 2, 1) := by decide +kernel
theorem d_Ja_copyOf_18 : decode (yB Y_Ja_copyOf) 18 = .ok (.aload_n 0, 1) := by decide +kernel
theorem d_Ja_copyOf_19 : decode (yB Y_Ja_copyOf) 19 = .ok (.iconst 0, 1) := by decide +kernel
theorem d_Ja_copyOf_20 : decode (yB Y_Ja_copyOf) 20 = .ok (.aload_n 2, 1) := by decide +kernel
theorem d_Ja_copyOf_21 : decode (yB Y_Ja_copyOf) 21 = .ok (.iconst 0, 1) := by decide +kernel
theorem d_Ja_copyOf_22 : decode (yB Y_Ja_copyOf) 22 = .ok (.aload_n 0, 1) := by decide +kernel
theorem d_Ja_copyOf_23 : decode (yB Y_Ja_copyOf) 23 = .ok (.arraylength, 1) := by decide +kernel
theorem d_Ja_copyOf_24 : decode (yB Y_Ja_copyOf) 24 = .ok (.iload_n 1, 1) := by decide +kernel
theorem d_Ja_copyOf_25 : decode (yB Y_Ja_copyOf) 25 = .ok (.invokestatic 304, 3) := by decide +kernel
theorem d_Ja_copyOf_28 : decode (yB Y_Ja_copyOf) 28 = .ok (.invokestatic 150, 3) := by decide +kernel
theorem d_Ja_copyOf_31 : decode (yB Y_Ja_copyOf) 31 = .ok (.aload_n 2, 1) := by decide +kernel
theorem d_Ja_copyOf_32 : decode (yB Y_Ja_copyOf) 32 = .ok (.areturn, 1) := by decide +kernel
def F_Ja_copyOf (n : Nat) (E : zE) (a0 : Nat) (x1 : Int32) (S : zS) (M : zH) : Option (Nat × zS × zH) :=
  (zlen S 12 a0).bind fun v_1 =>
  if x1 = v_1 then
    (zcln S M a0 512).bind fun q_3 =>
    some (q_3.1, q_3.2.1, q_3.2.2)
  else
    (zmkA S M 12 x1 512).bind fun q_4 =>
    (zlen q_4.2.1 12 a0).bind fun v_5 =>
    (F_Jm_min n E q_4.2.1 v_5 x1 q_4.2.2).bind fun q_6 =>
    (zcpy q_4.2.1 q_6.2 a0 0 q_4.1 0 q_6.1).bind fun m_7 =>
    some (q_4.1, q_4.2.1, m_7)
theorem K_Ja_copyOf (n : Nat) (E : zE) (a0 : Nat) (x1 : Int32) (S : zS) (M : zH) (r : Nat) (S' : zS) (M' : zH)  (h : F_Ja_copyOf n E a0 x1 S M = some (r, S', M')) : zG E Y_Ja_copyOf (some (.ref r), S', M') 0 [(0, .ref a0), (1, .int x1)] [] S M 0 0 := by
  unfold F_Ja_copyOf at h
  refine zi_iload_n 1 d_Ja_copyOf_0 rfl ?_
  refine zi_aload_n 0 d_Ja_copyOf_1 rfl ?_
  obtain ⟨v_1, ev_1, h⟩ := zbind h
  refine zo_alen 3 d_Ja_copyOf_2 ev_1 (by decide) rfl ?_
  refine zi_icmp_ne (tgt := 14) d_Ja_copyOf_3 rfl (fun c_2 => ?_) (fun c_2 => ?_)
  · rw [if_neg c_2] at h
    refine zi_iload_n 1 d_Ja_copyOf_14 rfl ?_
    obtain ⟨q_4, eq_4, h⟩ := zbind h
    refine zo_newarr (pos := 0) 17 d_Ja_copyOf_15 eq_4 (by decide) rfl rfl (by decide) tw_129 (Nat.le_of_ble_eq_true rfl) (Nat.le_of_ble_eq_true rfl) rfl rfl rfl ?_
    refine zi_astore_n [(2, .ref q_4.1), (0, .ref a0), (1, .int x1)] d_Ja_copyOf_17 (by decide) rfl ?_
    refine zi_aload_n 1 d_Ja_copyOf_18 rfl ?_
    refine zi_iconst 0 d_Ja_copyOf_19 rfl ?_
    refine zi_aload_n 0 d_Ja_copyOf_20 rfl ?_
    refine zi_iconst 0 d_Ja_copyOf_21 rfl ?_
    refine zi_aload_n 1 d_Ja_copyOf_22 rfl ?_
    obtain ⟨v_5, ev_5, h⟩ := zbind h
    refine zo_alen 24 d_Ja_copyOf_23 ev_5 (by decide) rfl ?_
    refine zi_iload_n 2 d_Ja_copyOf_24 rfl ?_
    obtain ⟨q_6, eq_6, h⟩ := zbind h
    refine zo_stat (k' := 1) (n' := 512) 28 [.int v_5, .int x1] [.int 0, .ref q_4.1, .int 0, .ref a0] [.int q_6.1, .int 0, .ref q_4.1, .int 0, .ref a0] (C_Jm_min n E q_4.2.1 v_5 x1 q_4.2.2 q_6.1 q_6.2 eq_6) d_Ja_copyOf_25 tw_437 tw_850 tw_436 tw_14 dd_Jm_min ⟨Nat.le_of_ble_eq_true rfl, Nat.le_of_ble_eq_true rfl, Nat.le_of_ble_eq_true rfl, Nat.le_of_ble_eq_true rfl⟩ (Nat.le_of_ble_eq_true rfl) rfl rfl rfl rfl ?_
    obtain ⟨m_7, em_7, h⟩ := zbind h
    refine zo_cpy 31 d_Ja_copyOf_28 em_7 tw_851 zcpw rfl (by decide) (Nat.le_of_ble_eq_true rfl) ?_
    refine zi_aload_n 0 d_Ja_copyOf_31 rfl ?_
    cases h
    exact zo_ret d_Ja_copyOf_32 (Nat.le_of_ble_eq_true rfl) (Nat.le_of_ble_eq_true rfl) rfl
  · rw [if_pos c_2] at h
    refine zi_aload_n 0 d_Ja_copyOf_6 rfl ?_
    obtain ⟨q_3, eq_3, h⟩ := zbind h
    refine zo_clone 13 d_Ja_copyOf_7 d_Ja_copyOf_10 eq_3 tw_843 tw_844 tw_845 tw_846 tw_847 tw_849 (by decide) (Nat.le_of_ble_eq_true rfl) (Nat.le_of_ble_eq_true rfl) (Nat.le_of_ble_eq_true rfl) rfl rfl rfl ?_
    cases h
    exact zo_ret d_Ja_copyOf_13 (Nat.le_of_ble_eq_true rfl) (Nat.le_of_ble_eq_true rfl) rfl
theorem C_Ja_copyOf (n : Nat) (E : zE) (a0 : Nat) (x1 : Int32) (S : zS) (M : zH) (r : Nat) (S' : zS) (M' : zH) (h : F_Ja_copyOf n E a0 x1 S M = some (r, S', M')) : zC E Y_Ja_copyOf [.ref a0, .int x1] S M (some (.ref r), S', M') :=
  zC.of (Or.inl (show plainName "java/util/Arrays" = true by decide)) (Nat.le_of_ble_eq_true rfl) (trivial) (K_Ja_copyOf n E a0 x1 S M r S' M' h)
theorem d_Te_init1_0 : decode (yB Y_Te_init1) 0 = .ok (.aload_n 0, 1) := by decide +kernel
theorem d_Te_init1_1 : decode (yB Y_Te_init1) 1 = .ok (.invokespecial 1, 3) := by decide +kernel
theorem d_Te_init1_4 : decode (yB Y_Te_init1) 4 = .ok (.aload_n 0, 1) := by decide +kernel
theorem d_Te_init1_5 : decode (yB Y_Te_init1) 5 = .ok (.iconst 0, 1) := by decide +kernel
theorem d_Te_init1_6 : decode (yB Y_Te_init1) 6 = .ok (.putfield 7, 3) := by decide +kernel
theorem d_Te_init1_9 : decode (yB Y_Te_init1) 9 = .ok (.aload_n 0, 1) := by decide +kernel
theorem d_Te_init1_10 : decode (yB Y_Te_init1) 10 = .ok (.iconst 0, 1) := by decide +kernel
theorem d_Te_init1_11 : decode (yB Y_Te_init1) 11 = .ok (.putfield 13, 3) := by decide +kernel
theorem d_Te_init1_14 : decode (yB Y_Te_init1) 14 = .ok (.aload_n 0, 1) := by decide +kernel
theorem d_Te_init1_15 : decode (yB Y_Te_init1) 15 = .ok (.aload_n 1, 1) := by decide +kernel
theorem d_Te_init1_16 : decode (yB Y_Te_init1) 16 = .ok (.getfield 16, 3) := by decide +kernel
theorem d_Te_init1_19 : decode (yB Y_Te_init1) 19 = .ok (.aload_n 1, 1) := by decide +kernel
theorem d_Te_init1_20 : decode (yB Y_Te_init1) 20 = .ok (.getfield 7, 3) := by decide +kernel
theorem d_Te_init1_23 : decode (yB Y_Te_init1) 23 = .ok (.iconst 0, 1) := by decide +kernel
theorem d_Te_init1_24 : decode (yB Y_Te_init1) 24 = .ok (.invokestatic 32, 3) := by decide +kernel
theorem d_Te_init1_27 : decode (yB Y_Te_init1) 27 = .ok (.invokestatic 38, 3) := by decide +kernel
theorem d_Te_init1_30 : decode (yB Y_Te_init1) 30 = .ok (.putfield 16, 3) := by decide +kernel
theorem d_Te_init1_33 : decode (yB Y_Te_init1) 33 = .ok (.aload_n 0, 1) := by decide +kernel
theorem d_Te_init1_34 : decode (yB Y_Te_init1) 34 = .ok (.aload_n 1, 1) := by decide +kernel
theorem d_Te_init1_35 : decode (yB Y_Te_init1) 35 = .ok (.getfield 20, 3) := by decide +kernel
theorem d_Te_init1_38 : decode (yB Y_Te_init1) 38 = .ok (.bipush 12, 2) := by decide +kernel
theorem d_Te_init1_40 : decode (yB Y_Te_init1) 40 = .ok (.invokestatic 38, 3) := by decide +kernel
theorem d_Te_init1_43 : decode (yB Y_Te_init1) 43 = .ok (.putfield 20, 3) := by decide +kernel
theorem d_Te_init1_46 : decode (yB Y_Te_init1) 46 = .ok (.aload_n 0, 1) := by decide +kernel
theorem d_Te_init1_47 : decode (yB Y_Te_init1) 47 = .ok (.aload_n 1, 1) := by decide +kernel
theorem d_Te_init1_48 : decode (yB Y_Te_init1) 48 = .ok (.getfield 23, 3) := by decide +kernel
theorem d_Te_init1_51 : decode (yB Y_Te_init1) 51 = .ok (.bipush 12, 2) := by decide +kernel
theorem d_Te_init1_53 : decode (yB Y_Te_init1) 53 = .ok (.invokestatic 38, 3) := by decide +kernel
theorem d_Te_init1_56 : decode (yB Y_Te_init1) 56 = .ok (.putfield 23, 3) := by decide +kernel
theorem d_Te_init1_59 : decode (yB Y_Te_init1) 59 = .ok (.aload_n 0, 1) := by decide +kernel
theorem d_Te_init1_60 : decode (yB Y_Te_init1) 60 = .ok (.aload_n 1, 1) := by decide +kernel
theorem d_Te_init1_61 : decode (yB Y_Te_init1) 61 = .ok (.getfield 26, 3) := by decide +kernel
theorem d_Te_init1_64 : decode (yB Y_Te_init1) 64 = .ok (.bipush 12, 2) := by decide +kernel
theorem d_Te_init1_66 : decode (yB Y_Te_init1) 66 = .ok (.invokestatic 38, 3) := by decide +kernel
theorem d_Te_init1_69 : decode (yB Y_Te_init1) 69 = .ok (.putfield 26, 3) := by decide +kernel
theorem d_Te_init1_72 : decode (yB Y_Te_init1) 72 = .ok (.aload_n 0, 1) := by decide +kernel
theorem d_Te_init1_73 : decode (yB Y_Te_init1) 73 = .ok (.aload_n 1, 1) := by decide +kernel
theorem d_Te_init1_74 : decode (yB Y_Te_init1) 74 = .ok (.getfield 29, 3) := by decide +kernel
theorem d_Te_init1_77 : decode (yB Y_Te_init1) 77 = .ok (.bipush 48, 2) := by decide +kernel
theorem d_Te_init1_79 : decode (yB Y_Te_init1) 79 = .ok (.invokestatic 38, 3) := by decide +kernel
theorem d_Te_init1_82 : decode (yB Y_Te_init1) 82 = .ok (.putfield 29, 3) := by decide +kernel
theorem d_Te_init1_85 : decode (yB Y_Te_init1) 85 = .ok (.aload_n 0, 1) := by decide +kernel
theorem d_Te_init1_86 : decode (yB Y_Te_init1) 86 = .ok (.aload_n 1, 1) := by decide +kernel
theorem d_Te_init1_87 : decode (yB Y_Te_init1) 87 = .ok (.getfield 7, 3) := by decide +kernel
theorem d_Te_init1_90 : decode (yB Y_Te_init1) 90 = .ok (.putfield 7, 3) := by decide +kernel
theorem d_Te_init1_93 : decode (yB Y_Te_init1) 93 = .ok (.aload_n 0, 1) := by decide +kernel
theorem d_Te_init1_94 : decode (yB Y_Te_init1) 94 = .ok (.aload_n 1, 1) := by decide +kernel
theorem d_Te_init1_95 : decode (yB Y_Te_init1) 95 = .ok (.getfield 13, 3) := by decide +kernel
theorem d_Te_init1_98 : decode (yB Y_Te_init1) 98 = .ok (.putfield 13, 3) := by decide +kernel
theorem d_Te_init1_101 : decode (yB Y_Te_init1) 101 = .ok (.return_, 1) := by decide +kernel
def F_Te_init1 (n : Nat) (E : zE) (a0 : Nat) (a1 : Nat) (S : zS) (M : zH) : Option (zS × zH) :=
  (zpI S M a0 9 5 0).bind fun m_1 =>
  (zpI S m_1 a0 9 6 0).bind fun m_2 =>
  (zgR S a1 9 0).bind fun b_3 =>
  (zgI S m_2 a1 9 5).bind fun v_4 =>
  (F_Jm_max n E S v_4 0 m_2).bind fun q_5 =>
  (F_Ja_copyOf n E b_3 q_5.1 S q_5.2).bind fun q_6 =>
  (zpR q_6.2.1 a0 9 0 q_6.1).bind fun S_7 =>
  (zgR S_7 a1 9 1).bind fun b_8 =>
  (F_Ja_copyOf n E b_8 12 S_7 q_6.2.2).bind fun q_9 =>
  (zpR q_9.2.1 a0 9 1 q_9.1).bind fun S_10 =>
  (zgR S_10 a1 9 2).bind fun b_11 =>
  (F_Ja_copyOf n E b_11 12 S_10 q_9.2.2).bind fun q_12 =>
  (zpR q_12.2.1 a0 9 2 q_12.1).bind fun S_13 =>
  (zgR S_13 a1 9 3).bind fun b_14 =>
  (F_Ja_copyOf n E b_14 12 S_13 q_12.2.2).bind fun q_15 =>
  (zpR q_15.2.1 a0 9 3 q_15.1).bind fun S_16 =>
  (zgR S_16 a1 9 4).bind fun b_17 =>
  (F_Ja_copyOf n E b_17 48 S_16 q_15.2.2).bind fun q_18 =>
  (zpR q_18.2.1 a0 9 4 q_18.1).bind fun S_19 =>
  (zgI S_19 q_18.2.2 a1 9 5).bind fun v_20 =>
  (zpI S_19 q_18.2.2 a0 9 5 v_20).bind fun m_21 =>
  (zgI S_19 m_21 a1 9 6).bind fun v_22 =>
  (zpI S_19 m_21 a0 9 6 v_22).bind fun m_23 =>
  some (S_19, m_23)
theorem K_Te_init1 (n : Nat) (E : zE) (a0 : Nat) (a1 : Nat) (S : zS) (M : zH) (S' : zS) (M' : zH)  (h : F_Te_init1 n E a0 a1 S M = some (S', M')) : zG E Y_Te_init1 (none, S', M') 0 [(0, .ref a0), (1, .ref a1)] [] S M 0 0 := by
  unfold F_Te_init1 at h
  refine zi_aload_n 0 d_Te_init1_0 rfl ?_
  refine zi_objInit d_Te_init1_1 tw_184 tw_28 zobj (by decide) (Nat.le_of_ble_eq_true rfl) ?_
  refine zi_aload_n 0 d_Te_init1_4 rfl ?_
  refine zi_iconst 0 d_Te_init1_5 rfl ?_
  obtain ⟨m_1, em_1, h⟩ := zbind h
  refine zo_putI 9 zkd_9 5 d_Te_init1_6 em_1 rfl rfl rfl tw_195 rfl ?_
  refine zi_aload_n 0 d_Te_init1_9 rfl ?_
  refine zi_iconst 0 d_Te_init1_10 rfl ?_
  obtain ⟨m_2, em_2, h⟩ := zbind h
  refine zo_putI 14 zkd_9 6 d_Te_init1_11 em_2 rfl rfl rfl tw_197 rfl ?_
  refine zi_aload_n 0 d_Te_init1_14 rfl ?_
  refine zi_aload_n 1 d_Te_init1_15 rfl ?_
  obtain ⟨b_3, eb_3, h⟩ := zbind h
  refine zo_getR 19 zkd_9 0 d_Te_init1_16 eb_3 rfl tw_185 rfl ?_
  refine zi_aload_n 1 d_Te_init1_19 rfl ?_
  obtain ⟨v_4, ev_4, h⟩ := zbind h
  refine zo_getI 23 zkd_9 5 d_Te_init1_20 ev_4 rfl tw_195 rfl ?_
  refine zi_iconst 0 d_Te_init1_23 rfl ?_
  obtain ⟨q_5, eq_5, h⟩ := zbind h
  refine zo_stat (k' := 0) (n' := 0) 27 [.int v_4, .int 0] [.ref b_3, .ref a0] [.int q_5.1, .ref b_3, .ref a0] (C_Jm_max n E S v_4 0 m_2 q_5.1 q_5.2 eq_5) d_Te_init1_24 tw_440 tw_654 tw_439 tw_14 dd_Jm_max ⟨Nat.le_of_ble_eq_true rfl, Nat.le_of_ble_eq_true rfl, Nat.le_of_ble_eq_true rfl, Nat.le_of_ble_eq_true rfl⟩ (Nat.le_of_ble_eq_true rfl) rfl rfl rfl rfl ?_
  obtain ⟨q_6, eq_6, h⟩ := zbind h
  refine zo_stat (k' := 1) (n' := 512) 30 [.ref b_3, .int q_5.1] [.ref a0] [.ref q_6.1, .ref a0] (C_Ja_copyOf n E b_3 q_5.1 S q_5.2 q_6.1 q_6.2.1 q_6.2.2 eq_6) d_Te_init1_27 tw_842 tw_840 tw_841 tw_3 dd_Ja_copyOf ⟨Nat.le_of_ble_eq_true rfl, Nat.le_of_ble_eq_true rfl, Nat.le_of_ble_eq_true rfl, Nat.le_of_ble_eq_true rfl⟩ (Nat.le_of_ble_eq_true rfl) rfl rfl rfl rfl ?_
  obtain ⟨S_7, eS_7, h⟩ := zbind h
  refine zo_putR 33 zkd_9 0 d_Te_init1_30 eS_7 rfl rfl rfl rfl ⟨rfl, rfl⟩ tw_185 rfl ?_
  refine zi_aload_n 0 d_Te_init1_33 rfl ?_
  refine zi_aload_n 1 d_Te_init1_34 rfl ?_
  obtain ⟨b_8, eb_8, h⟩ := zbind h
  refine zo_getR 38 zkd_9 1 d_Te_init1_35 eb_8 rfl tw_187 rfl ?_
  refine zi_bipush 12 d_Te_init1_38 rfl ?_
  obtain ⟨q_9, eq_9, h⟩ := zbind h
  refine zo_stat (k' := 2) (n' := 1024) 43 [.ref b_8, .int 12] [.ref a0] [.ref q_9.1, .ref a0] (C_Ja_copyOf n E b_8 12 S_7 q_6.2.2 q_9.1 q_9.2.1 q_9.2.2 eq_9) d_Te_init1_40 tw_842 tw_840 tw_841 tw_3 dd_Ja_copyOf ⟨Nat.le_of_ble_eq_true rfl, Nat.le_of_ble_eq_true rfl, Nat.le_of_ble_eq_true rfl, Nat.le_of_ble_eq_true rfl⟩ (Nat.le_of_ble_eq_true rfl) rfl rfl rfl rfl ?_
  obtain ⟨S_10, eS_10, h⟩ := zbind h
  refine zo_putR 46 zkd_9 1 d_Te_init1_43 eS_10 rfl rfl rfl rfl ⟨rfl, rfl⟩ tw_187 rfl ?_
  refine zi_aload_n 0 d_Te_init1_46 rfl ?_
  refine zi_aload_n 1 d_Te_init1_47 rfl ?_
  obtain ⟨b_11, eb_11, h⟩ := zbind h
  refine zo_getR 51 zkd_9 2 d_Te_init1_48 eb_11 rfl tw_190 rfl ?_
  refine zi_bipush 12 d_Te_init1_51 rfl ?_
  obtain ⟨q_12, eq_12, h⟩ := zbind h
  refine zo_stat (k' := 3) (n' := 1536) 56 [.ref b_11, .int 12] [.ref a0] [.ref q_12.1, .ref a0] (C_Ja_copyOf n E b_11 12 S_10 q_9.2.2 q_12.1 q_12.2.1 q_12.2.2 eq_12) d_Te_init1_53 tw_842 tw_840 tw_841 tw_3 dd_Ja_copyOf ⟨Nat.le_of_ble_eq_true rfl, Nat.le_of_ble_eq_true rfl, Nat.le_of_ble_eq_true rfl, Nat.le_of_ble_eq_true rfl⟩ (Nat.le_of_ble_eq_true rfl) rfl rfl rfl rfl ?_
  obtain ⟨S_13, eS_13, h⟩ := zbind h
  refine zo_putR 59 zkd_9 2 d_Te_init1_56 eS_13 rfl rfl rfl rfl ⟨rfl, rfl⟩ tw_190 rfl ?_
  refine zi_aload_n 0 d_Te_init1_59 rfl ?_
  refine zi_aload_n 1 d_Te_init1_60 rfl ?_
  obtain ⟨b_14, eb_14, h⟩ := zbind h
  refine zo_getR 64 zkd_9 3 d_Te_init1_61 eb_14 rfl tw_192 rfl ?_
  refine zi_bipush 12 d_Te_init1_64 rfl ?_
  obtain ⟨q_15, eq_15, h⟩ := zbind h
  refine zo_stat (k' := 4) (n' := 2048) 69 [.ref b_14, .int 12] [.ref a0] [.ref q_15.1, .ref a0] (C_Ja_copyOf n E b_14 12 S_13 q_12.2.2 q_15.1 q_15.2.1 q_15.2.2 eq_15) d_Te_init1_66 tw_842 tw_840 tw_841 tw_3 dd_Ja_copyOf ⟨Nat.le_of_ble_eq_true rfl, Nat.le_of_ble_eq_true rfl, Nat.le_of_ble_eq_true rfl, Nat.le_of_ble_eq_true rfl⟩ (Nat.le_of_ble_eq_true rfl) rfl rfl rfl rfl ?_
  obtain ⟨S_16, eS_16, h⟩ := zbind h
  refine zo_putR 72 zkd_9 3 d_Te_init1_69 eS_16 rfl rfl rfl rfl ⟨rfl, rfl⟩ tw_192 rfl ?_
  refine zi_aload_n 0 d_Te_init1_72 rfl ?_
  refine zi_aload_n 1 d_Te_init1_73 rfl ?_
  obtain ⟨b_17, eb_17, h⟩ := zbind h
  refine zo_getR 77 zkd_9 4 d_Te_init1_74 eb_17 rfl tw_194 rfl ?_
  refine zi_bipush 48 d_Te_init1_77 rfl ?_
  obtain ⟨q_18, eq_18, h⟩ := zbind h
  refine zo_stat (k' := 5) (n' := 2560) 82 [.ref b_17, .int 48] [.ref a0] [.ref q_18.1, .ref a0] (C_Ja_copyOf n E b_17 48 S_16 q_15.2.2 q_18.1 q_18.2.1 q_18.2.2 eq_18) d_Te_init1_79 tw_842 tw_840 tw_841 tw_3 dd_Ja_copyOf ⟨Nat.le_of_ble_eq_true rfl, Nat.le_of_ble_eq_true rfl, Nat.le_of_ble_eq_true rfl, Nat.le_of_ble_eq_true rfl⟩ (Nat.le_of_ble_eq_true rfl) rfl rfl rfl rfl ?_
  obtain ⟨S_19, eS_19, h⟩ := zbind h
  refine zo_putR 85 zkd_9 4 d_Te_init1_82 eS_19 rfl rfl rfl rfl ⟨rfl, rfl⟩ tw_194 rfl ?_
  refine zi_aload_n 0 d_Te_init1_85 rfl ?_
  refine zi_aload_n 1 d_Te_init1_86 rfl ?_
  obtain ⟨v_20, ev_20, h⟩ := zbind h
  refine zo_getI 90 zkd_9 5 d_Te_init1_87 ev_20 rfl tw_195 rfl ?_
  obtain ⟨m_21, em_21, h⟩ := zbind h
  refine zo_putI 93 zkd_9 5 d_Te_init1_90 em_21 rfl rfl rfl tw_195 rfl ?_
  refine zi_aload_n 0 d_Te_init1_93 rfl ?_
  refine zi_aload_n 1 d_Te_init1_94 rfl ?_
  obtain ⟨v_22, ev_22, h⟩ := zbind h
  refine zo_getI 98 zkd_9 6 d_Te_init1_95 ev_22 rfl tw_197 rfl ?_
  obtain ⟨m_23, em_23, h⟩ := zbind h
  refine zo_putI 101 zkd_9 6 d_Te_init1_98 em_23 rfl rfl rfl tw_197 rfl ?_
  cases h
  exact zo_ret d_Te_init1_101 (Nat.le_of_ble_eq_true rfl) (Nat.le_of_ble_eq_true rfl) rfl
theorem C_Te_init1 (n : Nat) (E : zE) (a0 : Nat) (a1 : Nat) (S : zS) (M : zH) (S' : zS) (M' : zH) (h : F_Te_init1 n E a0 a1 S M = some (S', M')) : zC E Y_Te_init1 [.ref a0, .ref a1] S M (none, S', M') :=
  zC.of (Or.inl (show plainName "NightColander$Text" = true by decide)) (Nat.le_of_ble_eq_true rfl) (trivial) (K_Te_init1 n E a0 a1 S M S' M' h)
theorem d_Te_copy_0 : decode (yB Y_Te_copy) 0 = .ok (.new 8, 3) := by decide +kernel
theorem d_Te_copy_3 : decode (yB Y_Te_copy) 3 = .ok (.dup, 1) := by decide +kernel
theorem d_Te_copy_4 : decode (yB Y_Te_copy) 4 = .ok (.aload_n 0, 1) := by decide +kernel
theorem d_Te_copy_5 : decode (yB Y_Te_copy) 5 = .ok (.invokespecial 44, 3) := by decide +kernel
theorem d_Te_copy_8 : decode (yB Y_Te_copy) 8 = .ok (.areturn, 1) := by decide +kernel
def F_Te_copy (n : Nat) (E : zE) (a0 : Nat) (S : zS) (M : zH) : Option (Nat × zS × zH) :=
  (zmkO S M 9).bind fun q_1 =>
  (F_Te_init1 n E q_1.1 a0 q_1.2.1 q_1.2.2).bind fun q_2 =>
  some (q_1.1, q_2.1, q_2.2)
theorem K_Te_copy (n : Nat) (E : zE) (a0 : Nat) (S : zS) (M : zH) (r : Nat) (S' : zS) (M' : zH)  (h : F_Te_copy n E a0 S M = some (r, S', M')) : zG E Y_Te_copy (some (.ref r), S', M') 0 [(0, .ref a0)] [] S M 0 0 := by
  unfold F_Te_copy at h
  obtain ⟨q_1, eq_1, h⟩ := zbind h
  refine zo_new 3 zkd_9 d_Te_copy_0 eq_1 tw_836 tw_180 tw_7 (by decide) (Nat.le_of_ble_eq_true rfl) (Nat.le_of_ble_eq_true rfl) rfl rfl rfl ?_
  refine zi_dup d_Te_copy_3 rfl ?_
  refine zi_aload_n 0 d_Te_copy_4 rfl ?_
  obtain ⟨q_2, eq_2, h⟩ := zbind h
  refine zo_init (k' := 6) (n' := 2567) 8 [.ref a0] [.ref q_1.1] (C_Te_init1 n E q_1.1 a0 q_1.2.1 q_1.2.2 q_2.1 q_2.2 eq_2) d_Te_copy_5 rfl rfl tw_839 tw_837 tw_838 tw_7 dd_Te_init1 ⟨Nat.le_of_ble_eq_true rfl, Nat.le_of_ble_eq_true rfl, Nat.le_of_ble_eq_true rfl, Nat.le_of_ble_eq_true rfl⟩ (Nat.le_of_ble_eq_true rfl) rfl rfl rfl ?_
  cases h
  exact zo_ret d_Te_copy_8 (Nat.le_of_ble_eq_true rfl) (Nat.le_of_ble_eq_true rfl) rfl
theorem C_Te_copy (n : Nat) (E : zE) (a0 : Nat) (S : zS) (M : zH) (r : Nat) (S' : zS) (M' : zH) (h : F_Te_copy n E a0 S M = some (r, S', M')) : zC E Y_Te_copy [.ref a0] S M (some (.ref r), S', M') :=
  zC.of (Or.inl (show plainName "NightColander$Text" = true by decide)) (Nat.le_of_ble_eq_true rfl) (trivial) (K_Te_copy n E a0 S M r S' M' h)
theorem d_NC_law_0 : decode (yB Y_NC_law) 0 = .ok (.aload_n 0, 1) := by decide +kernel
theorem d_NC_law_1 : decode (yB Y_NC_law) 1 = .ok (.getfield 12, 3) := by decide +kernel
theorem d_NC_law_4 : decode (yB Y_NC_law) 4 = .ok (.getfield 208, 3) := by decide +kernel
theorem d_NC_law_7 : decode (yB Y_NC_law) 7 = .ok (.bipush 6, 2) := by decide +kernel
theorem d_NC_law_9 : decode (yB Y_NC_law) 9 = .ok (.if_icmp .lt 18, 3) := by decide +kernel
theorem d_NC_law_12 : decode (yB Y_NC_law) 12 = .ok (.aload_n 0, 1) := by decide +kernel
theorem d_NC_law_13 : decode (yB Y_NC_law) 13 = .ok (.getfield 45, 3) := by decide +kernel
theorem d_NC_law_16 : decode (yB Y_NC_law) 16 = .ok (.iconst 0, 1) := by decide +kernel
theorem d_NC_law_17 : decode (yB Y_NC_law) 17 = .ok (.putfield 202, 3) := by decide +kernel
theorem d_NC_law_20 : decode (yB Y_NC_law) 20 = .ok (.aload_n 0, 1) := by decide +kernel
theorem d_NC_law_21 : decode (yB Y_NC_law) 21 = .ok (.bipush (-5), 2) := by decide +kernel
theorem d_NC_law_23 : decode (yB Y_NC_law) 23 = .ok (.invokevirtual 136, 3) := by decide +kernel
theorem d_NC_law_26 : decode (yB Y_NC_law) 26 = .ok (.ireturn, 1) := by decide +kernel
theorem d_NC_law_27 : decode (yB Y_NC_law) 27 = .ok (.aload_n 0, 1) := by decide +kernel
theorem d_NC_law_28 : decode (yB Y_NC_law) 28 = .ok (.aload_n 0, 1) := by decide +kernel
theorem d_NC_law_29 : decode (yB Y_NC_law) 29 = .ok (.getfield 54, 3) := by decide +kernel
theorem d_NC_law_32 : decode (yB Y_NC_law) 32 = .ok (.iconst 0, 1) := by decide +kernel
theorem d_NC_law_33 : decode (yB Y_NC_law) 33 = .ok (.invokevirtual 211, 3) := by decide +kernel
theorem d_NC_law_36 : decode (yB Y_NC_law) 36 = .ok (.putfield 105, 3) := by decide +kernel
theorem d_NC_law_39 : decode (yB Y_NC_law) 39 = .ok (.aload_n 0, 1) := by decide +kernel
theorem d_NC_law_40 : decode (yB Y_NC_law) 40 = .ok (.getfield 45, 3) := by decide +kernel
theorem d_NC_law_43 : decode (yB Y_NC_law) 43 = .ok (.iconst 0, 1) := by decide +kernel
theorem d_NC_law_44 : decode (yB Y_NC_law) 44 = .ok (.putfield 202, 3) := by decide +kernel
theorem d_NC_law_47 : decode (yB Y_NC_law) 47 = .ok (.aload_n 0, 1) := by decide +kernel
theorem d_NC_law_48 : decode (yB Y_NC_law) 48 = .ok (.getfield 105, 3) := by decide +kernel
theorem d_NC_law_51 : decode (yB Y_NC_law) 51 = .ok (.iconst (-1), 1) := by decide +kernel
theorem d_NC_law_52 : decode (yB Y_NC_law) 52 = .ok (.if_icmp .eq 10, 3) := by decide +kernel
theorem d_NC_law_55 : decode (yB Y_NC_law) 55 = .ok (.aload_n 0, 1) := by decide +kernel
theorem d_NC_law_56 : decode (yB Y_NC_law) 56 = .ok (.bipush (-6), 2) := by decide +kernel
theorem d_NC_law_58 : decode (yB Y_NC_law) 58 = .ok (.invokevirtual 136, 3) := by decide +kernel
theorem d_NC_law_61 : decode (yB Y_NC_law) 61 = .ok (.ireturn, 1) := by decide +kernel
theorem d_NC_law_62 : decode (yB Y_NC_law) 62 = .ok (.aload_n 0, 1) := by decide +kernel
theorem d_NC_law_63 : decode (yB Y_NC_law) 63 = .ok (.aload_n 0, 1) := by decide +kernel
theorem d_NC_law_64 : decode (yB Y_NC_law) 64 = .ok (.getfield 12, 3) := by decide +kernel
theorem d_NC_law_67 : decode (yB Y_NC_law) 67 = .ok (.aload_n 0, 1) := by decide +kernel
theorem d_NC_law_68 : decode (yB Y_NC_law) 68 = .ok (.getfield 54, 3) := by decide +kernel
theorem d_NC_law_71 : decode (yB Y_NC_law) 71 = .ok (.getfield 215, 3) := by decide +kernel
theorem d_NC_law_74 : decode (yB Y_NC_law) 74 = .ok (.invokevirtual 219, 3) := by decide +kernel
theorem d_NC_law_77 : decode (yB Y_NC_law) 77 = .ok (.invokevirtual 225, 3) := by decide +kernel
theorem d_NC_law_80 : decode (yB Y_NC_law) 80 = .ok (.invokevirtual 146, 3) := by decide +kernel
theorem d_NC_law_83 : decode (yB Y_NC_law) 83 = .ok (.ireturn, 1) := by decide +kernel
def F_NC_law (n : Nat) (E : zE) (a0 : Nat) (S : zS) (M : zH) : Option (Int32 × zS × zH) :=
  (zgR S a0 10 0).bind fun b_1 =>
  (zgI S M b_1 3 13).bind fun v_2 =>
  if v_2 < 6 then
    (zgR S a0 10 8).bind fun b_4 =>
    (zck S b_4 5).bind fun u_5 =>
    (F_Ps_parse n E S b_4 0 M).bind fun q_6 =>
    (zpI S q_6.2 a0 10 17 q_6.1).bind fun m_7 =>
    (zgR S a0 10 7).bind fun b_8 =>
    (zpI S m_7 b_8 8 1 0).bind fun m_9 =>
    (zgI S m_9 a0 10 17).bind fun v_10 =>
    if v_10 = (-1) then
      (zgR S b_4 5 0).bind fun b_12 =>
      (zck S b_12 9).bind fun u_13 =>
      (F_Te_copy n E b_12 S m_9).bind fun q_14 =>
      (zck q_14.2.1 b_1 3).bind fun u_15 =>
      (F_Ni_addLaw n E q_14.2.1 b_1 q_14.1 q_14.2.2).bind fun q_16 =>
      (zck q_14.2.1 a0 10).bind fun u_17 =>
      (F_NC_accept n E q_14.2.1 a0 q_16.1 q_16.2).bind fun q_18 =>
      some (q_18.1, q_14.2.1, q_18.2)
    else
      (F_NC_refuse n E S a0 (-6) m_9).bind fun q_19 =>
      some (q_19.1, S, q_19.2)
  else
    (zgR S a0 10 7).bind fun b_20 =>
    (zpI S M b_20 8 1 0).bind fun m_21 =>
    (F_NC_refuse n E S a0 (-5) m_21).bind fun q_22 =>
    some (q_22.1, S, q_22.2)
theorem K_NC_law (n : Nat) (E : zE) (a0 : Nat) (S : zS) (M : zH) (r : Int32) (S' : zS) (M' : zH)  (h : F_NC_law n E a0 S M = some (r, S', M')) : zG E Y_NC_law (some (.int r), S', M') 0 [(0, .ref a0)] [] S M 0 0 := by
  unfold F_NC_law at h
  refine zi_aload_n 0 d_NC_law_0 rfl ?_
  obtain ⟨b_1, eb_1, h⟩ := zbind h
  refine zo_getR 4 zkd_10 0 d_NC_law_1 eb_1 rfl tw_332 rfl ?_
  obtain ⟨v_2, ev_2, h⟩ := zbind h
  refine zo_getI 7 zkd_3 13 d_NC_law_4 ev_2 rfl tw_94 rfl ?_
  refine zi_bipush 6 d_NC_law_7 rfl ?_
  refine zi_icmp_lt (tgt := 27) d_NC_law_9 rfl (fun c_3 => ?_) (fun c_3 => ?_)
  · rw [if_pos c_3] at h
    refine zi_aload_n 0 d_NC_law_27 rfl ?_
    refine zi_aload_n 0 d_NC_law_28 rfl ?_
    obtain ⟨b_4, eb_4, h⟩ := zbind h
    refine zo_getR 32 zkd_10 8 d_NC_law_29 eb_4 rfl tw_340 rfl ?_
    refine zi_iconst 0 d_NC_law_32 rfl ?_
    obtain ⟨u_5, eu_5, h⟩ := zbind h
    obtain ⟨q_6, eq_6, h⟩ := zbind h
    refine zo_virt (k' := 0) (n' := 0) 36 [.int 0] [.ref a0] [.int q_6.1, .ref a0] zkd_5 (zck_s eu_5) (C_Ps_parse n E S b_4 0 M q_6.1 q_6.2 eq_6) d_NC_law_33 tw_563 tw_560 tw_561 tw_562 tw_6 dd_Ps_parse ⟨Nat.le_of_ble_eq_true rfl, Nat.le_of_ble_eq_true rfl, Nat.le_of_ble_eq_true rfl, Nat.le_of_ble_eq_true rfl⟩ (Nat.le_of_ble_eq_true rfl) rfl rfl rfl rfl ?_
    obtain ⟨m_7, em_7, h⟩ := zbind h
    refine zo_putI 39 zkd_10 17 d_NC_law_36 em_7 rfl rfl rfl tw_349 rfl ?_
    refine zi_aload_n 0 d_NC_law_39 rfl ?_
    obtain ⟨b_8, eb_8, h⟩ := zbind h
    refine zo_getR 43 zkd_10 7 d_NC_law_40 eb_8 rfl tw_339 rfl ?_
    refine zi_iconst 0 d_NC_law_43 rfl ?_
    obtain ⟨m_9, em_9, h⟩ := zbind h
    refine zo_putI 47 zkd_8 1 d_NC_law_44 em_9 rfl rfl rfl tw_154 rfl ?_
    refine zi_aload_n 0 d_NC_law_47 rfl ?_
    obtain ⟨v_10, ev_10, h⟩ := zbind h
    refine zo_getI 51 zkd_10 17 d_NC_law_48 ev_10 rfl tw_349 rfl ?_
    refine zi_iconst (-1) d_NC_law_51 rfl ?_
    refine zi_icmp_eq (tgt := 62) d_NC_law_52 rfl (fun c_11 => ?_) (fun c_11 => ?_)
    · rw [if_pos c_11] at h
      refine zi_aload_n 0 d_NC_law_62 rfl ?_
      refine zi_aload_n 0 d_NC_law_63 rfl ?_
      refine zo_getR 67 zkd_10 0 d_NC_law_64 eb_1 rfl tw_332 rfl ?_
      refine zi_aload_n 0 d_NC_law_67 rfl ?_
      refine zo_getR 71 zkd_10 8 d_NC_law_68 eb_4 rfl tw_340 rfl ?_
      obtain ⟨b_12, eb_12, h⟩ := zbind h
      refine zo_getR 74 zkd_5 0 d_NC_law_71 eb_12 rfl tw_216 rfl ?_
      obtain ⟨u_13, eu_13, h⟩ := zbind h
      obtain ⟨q_14, eq_14, h⟩ := zbind h
      refine zo_virt (k' := 6) (n' := 2567) 77 [] [.ref b_1, .ref a0] [.ref q_14.1, .ref b_1, .ref a0] zkd_9 (zck_s eu_13) (C_Te_copy n E b_12 S m_9 q_14.1 q_14.2.1 q_14.2.2 eq_14) d_NC_law_74 tw_835 tw_832 tw_833 tw_834 tw_7 dd_Te_copy ⟨Nat.le_of_ble_eq_true rfl, Nat.le_of_ble_eq_true rfl, Nat.le_of_ble_eq_true rfl, Nat.le_of_ble_eq_true rfl⟩ (Nat.le_of_ble_eq_true rfl) rfl rfl rfl rfl ?_
      obtain ⟨u_15, eu_15, h⟩ := zbind h
      obtain ⟨q_16, eq_16, h⟩ := zbind h
      refine zo_virt (k' := 6) (n' := 2567) 80 [.ref q_14.1] [.ref a0] [.int q_16.1, .ref a0] zkd_3 (zck_s eu_15) (C_Ni_addLaw n E q_14.2.1 b_1 q_14.1 q_14.2.2 q_16.1 q_16.2 eq_16) d_NC_law_77 tw_857 tw_854 tw_855 tw_856 tw_2 dd_Ni_addLaw ⟨Nat.le_of_ble_eq_true rfl, Nat.le_of_ble_eq_true rfl, Nat.le_of_ble_eq_true rfl, Nat.le_of_ble_eq_true rfl⟩ (Nat.le_of_ble_eq_true rfl) rfl rfl rfl rfl ?_
      obtain ⟨u_17, eu_17, h⟩ := zbind h
      obtain ⟨q_18, eq_18, h⟩ := zbind h
      refine zo_virt (k' := 6) (n' := 2567) 83 [.int q_16.1] [] [.int q_18.1] zkd_10 (zck_s eu_17) (C_NC_accept n E q_14.2.1 a0 q_16.1 q_16.2 q_18.1 q_18.2 eq_18) d_NC_law_80 tw_456 tw_453 tw_455 ts_2 tw_1 dd_NC_accept ⟨Nat.le_of_ble_eq_true rfl, Nat.le_of_ble_eq_true rfl, Nat.le_of_ble_eq_true rfl, Nat.le_of_ble_eq_true rfl⟩ (Nat.le_of_ble_eq_true rfl) rfl rfl rfl rfl ?_
      cases h
      exact zo_ret d_NC_law_83 (Nat.le_of_ble_eq_true rfl) (Nat.le_of_ble_eq_true rfl) rfl
    · rw [if_neg c_11] at h
      refine zi_aload_n 0 d_NC_law_55 rfl ?_
      refine zi_bipush (-6) d_NC_law_56 rfl ?_
      obtain ⟨q_19, eq_19, h⟩ := zbind h
      refine zo_virt (k' := 0) (n' := 0) 61 [.int (-6)] [] [.int q_19.1] zkd_10 (zgR_s eb_1).1 (C_NC_refuse n E S a0 (-6) m_9 q_19.1 q_19.2 eq_19) d_NC_law_58 tw_448 tw_445 tw_447 ts_1 tw_1 dd_NC_refuse ⟨Nat.le_of_ble_eq_true rfl, Nat.le_of_ble_eq_true rfl, Nat.le_of_ble_eq_true rfl, Nat.le_of_ble_eq_true rfl⟩ (Nat.le_of_ble_eq_true rfl) rfl rfl rfl rfl ?_
      cases h
      exact zo_ret d_NC_law_61 (Nat.le_of_ble_eq_true rfl) (Nat.le_of_ble_eq_true rfl) rfl
  · rw [if_neg c_3] at h
    refine zi_aload_n 0 d_NC_law_12 rfl ?_
    obtain ⟨b_20, eb_20, h⟩ := zbind h
    refine zo_getR 16 zkd_10 7 d_NC_law_13 eb_20 rfl tw_339 rfl ?_
    refine zi_iconst 0 d_NC_law_16 rfl ?_
    obtain ⟨m_21, em_21, h⟩ := zbind h
    refine zo_putI 20 zkd_8 1 d_NC_law_17 em_21 rfl rfl rfl tw_154 rfl ?_
    refine zi_aload_n 0 d_NC_law_20 rfl ?_
    refine zi_bipush (-5) d_NC_law_21 rfl ?_
    obtain ⟨q_22, eq_22, h⟩ := zbind h
    refine zo_virt (k' := 0) (n' := 0) 26 [.int (-5)] [] [.int q_22.1] zkd_10 (zgR_s eb_1).1 (C_NC_refuse n E S a0 (-5) m_21 q_22.1 q_22.2 eq_22) d_NC_law_23 tw_448 tw_445 tw_447 ts_1 tw_1 dd_NC_refuse ⟨Nat.le_of_ble_eq_true rfl, Nat.le_of_ble_eq_true rfl, Nat.le_of_ble_eq_true rfl, Nat.le_of_ble_eq_true rfl⟩ (Nat.le_of_ble_eq_true rfl) rfl rfl rfl rfl ?_
    cases h
    exact zo_ret d_NC_law_26 (Nat.le_of_ble_eq_true rfl) (Nat.le_of_ble_eq_true rfl) rfl
theorem C_NC_law (n : Nat) (E : zE) (a0 : Nat) (S : zS) (M : zH) (r : Int32) (S' : zS) (M' : zH) (h : F_NC_law n E a0 S M = some (r, S', M')) : zC E Y_NC_law [.ref a0] S M (some (.int r), S', M') :=
  zC.of (Or.inl (show plainName "NightColander" = true by decide)) (Nat.le_of_ble_eq_true rfl) (trivial) (K_NC_law n E a0 S M r S' M' h)
theorem d_Ni_copyFrom_0 : decode (yB Y_Ni_copyFrom) 0 = .ok (.aload_n 1, 1) := by decide +kernel
theorem d_Ni_copyFrom_1 : decode (yB Y_Ni_copyFrom) 1 = .ok (.getfield 9, 3) := by decide +kernel
theorem d_Ni_copyFrom_4 : decode (yB Y_Ni_copyFrom) 4 = .ok (.iconst 0, 1) := by decide +kernel
theorem d_Ni_copyFrom_5 : decode (yB Y_Ni_copyFrom) 5 = .ok (.aload_n 0, 1) := by decide +kernel
theorem d_Ni_copyFrom_6 : decode (yB Y_Ni_copyFrom) 6 = .ok (.getfield 9, 3) := by decide +kernel
theorem d_Ni_copyFrom_9 : decode (yB Y_Ni_copyFrom) 9 = .ok (.iconst 0, 1) := by decide +kernel
theorem d_Ni_copyFrom_10 : decode (yB Y_Ni_copyFrom) 10 = .ok (.aload_n 0, 1) := by decide +kernel
theorem d_Ni_copyFrom_11 : decode (yB Y_Ni_copyFrom) 11 = .ok (.getfield 9, 3) := by decide +kernel
theorem d_Ni_copyFrom_14 : decode (yB Y_Ni_copyFrom) 14 = .ok (.arraylength, 1) := by decide +kernel
theorem d_Ni_copyFrom_15 : decode (yB Y_Ni_copyFrom) 15 = .ok (.invokestatic 68, 3) := by decide +kernel
theorem d_Ni_copyFrom_18 : decode (yB Y_Ni_copyFrom) 18 = .ok (.aload_n 1, 1) := by decide +kernel
theorem d_Ni_copyFrom_19 : decode (yB Y_Ni_copyFrom) 19 = .ok (.getfield 19, 3) := by decide +kernel
theorem d_Ni_copyFrom_22 : decode (yB Y_Ni_copyFrom) 22 = .ok (.iconst 0, 1) := by decide +kernel
theorem d_Ni_copyFrom_23 : decode (yB Y_Ni_copyFrom) 23 = .ok (.aload_n 0, 1) := by decide +kernel
theorem d_Ni_copyFrom_24 : decode (yB Y_Ni_copyFrom) 24 = .ok (.getfield 19, 3) := by decide +kernel
theorem d_Ni_copyFrom_27 : decode (yB Y_Ni_copyFrom) 27 = .ok (.iconst 0, 1) := by decide +kernel
theorem d_Ni_copyFrom_28 : decode (yB Y_Ni_copyFrom) 28 = .ok (.aload_n 0, 1) := by decide +kernel
theorem d_Ni_copyFrom_29 : decode (yB Y_Ni_copyFrom) 29 = .ok (.getfield 19, 3) := by decide +kernel
theorem d_Ni_copyFrom_32 : decode (yB Y_Ni_copyFrom) 32 = .ok (.arraylength, 1) := by decide +kernel
theorem d_Ni_copyFrom_33 : decode (yB Y_Ni_copyFrom) 33 = .ok (.invokestatic 68, 3) := by decide +kernel
theorem d_Ni_copyFrom_36 : decode (yB Y_Ni_copyFrom) 36 = .ok (.aload_n 1, 1) := by decide +kernel
theorem d_Ni_copyFrom_37 : decode (yB Y_Ni_copyFrom) 37 = .ok (.getfield 22, 3) := by decide +kernel
theorem d_Ni_copyFrom_40 : decode (yB Y_Ni_copyFrom) 40 = .ok (.iconst 0, 1) := by decide +kernel
theorem d_Ni_copyFrom_41 : decode (yB Y_Ni_copyFrom) 41 = .ok (.aload_n 0, 1) := by decide +kernel
theorem d_Ni_copyFrom_42 : decode (yB Y_Ni_copyFrom) 42 = .ok (.getfield 22, 3) := by decide +kernel
theorem d_Ni_copyFrom_45 : decode (yB Y_Ni_copyFrom) 45 = .ok (.iconst 0, 1) := by decide +kernel
theorem d_Ni_copyFrom_46 : decode (yB Y_Ni_copyFrom) 46 = .ok (.aload_n 0, 1) := by decide +kernel
theorem d_Ni_copyFrom_47 : decode (yB Y_Ni_copyFrom) 47 = .ok (.getfield 22, 3) := by decide +kernel
theorem d_Ni_copyFrom_50 : decode (yB Y_Ni_copyFrom) 50 = .ok (.arraylength, 1) := by decide +kernel
theorem d_Ni_copyFrom_51 : decode (yB Y_Ni_copyFrom) 51 = .ok (.invokestatic 68, 3) := by decide +kernel
theorem d_Ni_copyFrom_54 : decode (yB Y_Ni_copyFrom) 54 = .ok (.aload_n 1, 1) := by decide +kernel
theorem d_Ni_copyFrom_55 : decode (yB Y_Ni_copyFrom) 55 = .ok (.getfield 25, 3) := by decide +kernel
theorem d_Ni_copyFrom_58 : decode (yB Y_Ni_copyFrom) 58 = .ok (.iconst 0, 1) := by decide +kernel
theorem d_Ni_copyFrom_59 : decode (yB Y_Ni_copyFrom) 59 = .ok (.aload_n 0, 1) := by decide +kernel
theorem d_Ni_copyFrom_60 : decode (yB Y_Ni_copyFrom) 60 = .ok (.getfield 25, 3) := by decide +kernel
theorem d_Ni_copyFrom_63 : decode (yB Y_Ni_copyFrom) 63 = .ok (.iconst 0, 1) := by decide +kernel
theorem d_Ni_copyFrom_64 : decode (yB Y_Ni_copyFrom) 64 = .ok (.aload_n 0, 1) := by decide +kernel
theorem d_Ni_copyFrom_65 : decode (yB Y_Ni_copyFrom) 65 = .ok (.getfield 25, 3) := by decide +kernel
theorem d_Ni_copyFrom_68 : decode (yB Y_Ni_copyFrom) 68 = .ok (.arraylength, 1) := by decide +kernel
theorem d_Ni_copyFrom_69 : decode (yB Y_Ni_copyFrom) 69 = .ok (.invokestatic 68, 3) := by decide +kernel
theorem d_Ni_copyFrom_72 : decode (yB Y_Ni_copyFrom) 72 = .ok (.aload_n 1, 1) := by decide +kernel
theorem d_Ni_copyFrom_73 : decode (yB Y_Ni_copyFrom) 73 = .ok (.getfield 28, 3) := by decide +kernel
theorem d_Ni_copyFrom_76 : decode (yB Y_Ni_copyFrom) 76 = .ok (.iconst 0, 1) := by decide +kernel
theorem d_Ni_copyFrom_77 : decode (yB Y_Ni_copyFrom) 77 = .ok (.aload_n 0, 1) := by decide +kernel
theorem d_Ni_copyFrom_78 : decode (yB Y_Ni_copyFrom) 78 = .ok (.getfield 28, 3) := by decide +kernel
theorem d_Ni_copyFrom_81 : decode (yB Y_Ni_copyFrom) 81 = .ok (.iconst 0, 1) := by decide +kernel
theorem d_Ni_copyFrom_82 : decode (yB Y_Ni_copyFrom) 82 = .ok (.aload_n 0, 1) := by decide +kernel
theorem d_Ni_copyFrom_83 : decode (yB Y_Ni_copyFrom) 83 = .ok (.getfield 28, 3) := by decide +kernel
theorem d_Ni_copyFrom_86 : decode (yB Y_Ni_copyFrom) 86 = .ok (.arraylength, 1) := by decide +kernel
theorem d_Ni_copyFrom_87 : decode (yB Y_Ni_copyFrom) 87 = .ok (.invokestatic 68, 3) := by decide +kernel
theorem d_Ni_copyFrom_90 : decode (yB Y_Ni_copyFrom) 90 = .ok (.aload_n 1, 1) := by decide +kernel
theorem d_Ni_copyFrom_91 : decode (yB Y_Ni_copyFrom) 91 = .ok (.getfield 31, 3) := by decide +kernel
theorem d_Ni_copyFrom_94 : decode (yB Y_Ni_copyFrom) 94 = .ok (.iconst 0, 1) := by decide +kernel
theorem d_Ni_copyFrom_95 : decode (yB Y_Ni_copyFrom) 95 = .ok (.aload_n 0, 1) := by decide +kernel
theorem d_Ni_copyFrom_96 : decode (yB Y_Ni_copyFrom) 96 = .ok (.getfield 31, 3) := by decide +kernel
theorem d_Ni_copyFrom_99 : decode (yB Y_Ni_copyFrom) 99 = .ok (.iconst 0, 1) := by decide +kernel
theorem d_Ni_copyFrom_100 : decode (yB Y_Ni_copyFrom) 100 = .ok (.aload_n 0, 1) := by decide +kernel
theorem d_Ni_copyFrom_101 : decode (yB Y_Ni_copyFrom) 101 = .ok (.getfield 31, 3) := by decide +kernel
theorem d_Ni_copyFrom_104 : decode (yB Y_Ni_copyFrom) 104 = .ok (.arraylength, 1) := by decide +kernel
theorem d_Ni_copyFrom_105 : decode (yB Y_Ni_copyFrom) 105 = .ok (.invokestatic 68, 3) := by decide +kernel
theorem d_Ni_copyFrom_108 : decode (yB Y_Ni_copyFrom) 108 = .ok (.aload_n 1, 1) := by decide +kernel
theorem d_Ni_copyFrom_109 : decode (yB Y_Ni_copyFrom) 109 = .ok (.getfield 34, 3) := by decide +kernel
theorem d_Ni_copyFrom_112 : decode (yB Y_Ni_copyFrom) 112 = .ok (.iconst 0, 1) := by decide +kernel
theorem d_Ni_copyFrom_113 : decode (yB Y_Ni_copyFrom) 113 = .ok (.aload_n 0, 1) := by decide +kernel
theorem d_Ni_copyFrom_114 : decode (yB Y_Ni_copyFrom) 114 = .ok (.getfield 34, 3) := by decide +kernel
theorem d_Ni_copyFrom_117 : decode (yB Y_Ni_copyFrom) 117 = .ok (.iconst 0, 1) := by decide +kernel
theorem d_Ni_copyFrom_118 : decode (yB Y_Ni_copyFrom) 118 = .ok (.aload_n 0, 1) := by decide +kernel
theorem d_Ni_copyFrom_119 : decode (yB Y_Ni_copyFrom) 119 = .ok (.getfield 34, 3) := by decide +kernel
theorem d_Ni_copyFrom_122 : decode (yB Y_Ni_copyFrom) 122 = .ok (.arraylength, 1) := by decide +kernel
theorem d_Ni_copyFrom_123 : decode (yB Y_Ni_copyFrom) 123 = .ok (.invokestatic 68, 3) := by decide +kernel
theorem d_Ni_copyFrom_126 : decode (yB Y_Ni_copyFrom) 126 = .ok (.aload_n 1, 1) := by decide +kernel
theorem d_Ni_copyFrom_127 : decode (yB Y_Ni_copyFrom) 127 = .ok (.getfield 37, 3) := by decide +kernel
theorem d_Ni_copyFrom_130 : decode (yB Y_Ni_copyFrom) 130 = .ok (.iconst 0, 1) := by decide +kernel
theorem d_Ni_copyFrom_131 : decode (yB Y_Ni_copyFrom) 131 = .ok (.aload_n 0, 1) := by decide +kernel
theorem d_Ni_copyFrom_132 : decode (yB Y_Ni_copyFrom) 132 = .ok (.getfield 37, 3) := by decide +kernel
theorem d_Ni_copyFrom_135 : decode (yB Y_Ni_copyFrom) 135 = .ok (.iconst 0, 1) := by decide +kernel
theorem d_Ni_copyFrom_136 : decode (yB Y_Ni_copyFrom) 136 = .ok (.aload_n 0, 1) := by decide +kernel
theorem d_Ni_copyFrom_137 : decode (yB Y_Ni_copyFrom) 137 = .ok (.getfield 37, 3) := by decide +kernel
theorem d_Ni_copyFrom_140 : decode (yB Y_Ni_copyFrom) 140 = .ok (.arraylength, 1) := by decide +kernel
theorem d_Ni_copyFrom_141 : decode (yB Y_Ni_copyFrom) 141 = .ok (.invokestatic 68, 3) := by decide +kernel
theorem d_Ni_copyFrom_144 : decode (yB Y_Ni_copyFrom) 144 = .ok (.aload_n 1, 1) := by decide +kernel
theorem d_Ni_copyFrom_145 : decode (yB Y_Ni_copyFrom) 145 = .ok (.getfield 40, 3) := by decide +kernel
theorem d_Ni_copyFrom_148 : decode (yB Y_Ni_copyFrom) 148 = .ok (.iconst 0, 1) := by decide +kernel
theorem d_Ni_copyFrom_149 : decode (yB Y_Ni_copyFrom) 149 = .ok (.aload_n 0, 1) := by decide +kernel
theorem d_Ni_copyFrom_150 : decode (yB Y_Ni_copyFrom) 150 = .ok (.getfield 40, 3) := by decide +kernel
theorem d_Ni_copyFrom_153 : decode (yB Y_Ni_copyFrom) 153 = .ok (.iconst 0, 1) := by decide +kernel
theorem d_Ni_copyFrom_154 : decode (yB Y_Ni_copyFrom) 154 = .ok (.aload_n 0, 1) := by decide +kernel
theorem d_Ni_copyFrom_155 : decode (yB Y_Ni_copyFrom) 155 = .ok (.getfield 40, 3) := by decide +kernel
theorem d_Ni_copyFrom_158 : decode (yB Y_Ni_copyFrom) 158 = .ok (.arraylength, 1) := by decide +kernel
theorem d_Ni_copyFrom_159 : decode (yB Y_Ni_copyFrom) 159 = .ok (.invokestatic 68, 3) := by decide +kernel
theorem d_Ni_copyFrom_162 : decode (yB Y_Ni_copyFrom) 162 = .ok (.iconst 0, 1) := by decide +kernel
theorem d_Ni_copyFrom_163 : decode (yB Y_Ni_copyFrom) 163 = .ok (.istore_n 2, 1) := by decide +kernel
theorem d_Ni_copyFrom_164 : decode (yB Y_Ni_copyFrom) 164 = .ok (.iload_n 2, 1) := by decide +kernel
theorem d_Ni_copyFrom_165 : decode (yB Y_Ni_copyFrom) 165 = .ok (.bipush 32, 2) := by decide +kernel
theorem d_Ni_copyFrom_167 : decode (yB Y_Ni_copyFrom) 167 = .ok (.if_icmp .ge 21, 3) := by decide +kernel
theorem d_Ni_copyFrom_170 : decode (yB Y_Ni_copyFrom) 170 = .ok (.aload_n 0, 1) := by decide +kernel
theorem d_Ni_copyFrom_171 : decode (yB Y_Ni_copyFrom) 171 = .ok (.getfield 15, 3) := by decide +kernel
theorem d_Ni_copyFrom_174 : decode (yB Y_Ni_copyFrom) 174 = .ok (.iload_n 2, 1) := by decide +kernel
theorem d_Ni_copyFrom_175 : decode (yB Y_Ni_copyFrom) 175 = .ok (.aload_n 1, 1) := by decide +kernel
theorem d_Ni_copyFrom_176 : decode (yB Y_Ni_copyFrom) 176 = .ok (.getfield 15, 3) := by decide +kernel
theorem d_Ni_copyFrom_179 : decode (yB Y_Ni_copyFrom) 179 = .ok (.iload_n 2, 1) := by decide +kernel
theorem d_Ni_copyFrom_180 : decode (yB Y_Ni_copyFrom) 180 = .ok (.baload, 1) := by decide +kernel
theorem d_Ni_copyFrom_181 : decode (yB Y_Ni_copyFrom) 181 = .ok (.bastore, 1) := by decide +kernel
theorem d_Ni_copyFrom_182 : decode (yB Y_Ni_copyFrom) 182 = .ok (.iinc 2 1, 3) := by decide +kernel
theorem d_Ni_copyFrom_185 : decode (yB Y_Ni_copyFrom) 185 = .ok (.goto (-21), 3) := by decide +kernel
theorem d_Ni_copyFrom_188 : decode (yB Y_Ni_copyFrom) 188 = .ok (.iconst 0, 1) := by decide +kernel
theorem d_Ni_copyFrom_189 : decode (yB Y_Ni_copyFrom) 189 = .ok (.istore_n 2, 1) := by decide +kernel
theorem d_Ni_copyFrom_190 : decode (yB Y_Ni_copyFrom) 190 = .ok (.iload_n 2, 1) := by decide +kernel
theorem d_Ni_copyFrom_191 : decode (yB Y_Ni_copyFrom) 191 = .ok (.bipush 6, 2) := by decide +kernel
theorem d_Ni_copyFrom_193 : decode (yB Y_Ni_copyFrom) 193 = .ok (.if_icmp .ge 21, 3) := by decide +kernel
theorem d_Ni_copyFrom_196 : decode (yB Y_Ni_copyFrom) 196 = .ok (.aload_n 0, 1) := by decide +kernel
theorem d_Ni_copyFrom_197 : decode (yB Y_Ni_copyFrom) 197 = .ok (.getfield 45, 3) := by decide +kernel
theorem d_Ni_copyFrom_200 : decode (yB Y_Ni_copyFrom) 200 = .ok (.iload_n 2, 1) := by decide +kernel
theorem d_Ni_copyFrom_201 : decode (yB Y_Ni_copyFrom) 201 = .ok (.aload_n 1, 1) := by decide +kernel
theorem d_Ni_copyFrom_202 : decode (yB Y_Ni_copyFrom) 202 = .ok (.getfield 45, 3) := by decide +kernel
theorem d_Ni_copyFrom_205 : decode (yB Y_Ni_copyFrom) 205 = .ok (.iload_n 2, 1) := by decide +kernel
theorem d_Ni_copyFrom_206 : decode (yB Y_Ni_copyFrom) 206 = .ok (.aaload, 1) := by decide +kernel
theorem d_Ni_copyFrom_207 : decode (yB Y_Ni_copyFrom) 207 = .ok (.aastore, 1) := by decide +kernel
theorem d_Ni_copyFrom_208 : decode (yB Y_Ni_copyFrom) 208 = .ok (.iinc 2 1, 3) := by decide +kernel
theorem d_Ni_copyFrom_211 : decode (yB Y_Ni_copyFrom) 211 = .ok (.goto (-21), 3) := by decide +kernel
theorem d_Ni_copyFrom_214 : decode (yB Y_Ni_copyFrom) 214 = .ok (.aload_n 0, 1) := by decide +kernel
theorem d_Ni_copyFrom_215 : decode (yB Y_Ni_copyFrom) 215 = .ok (.aload_n 1, 1) := by decide +kernel
theorem d_Ni_copyFrom_216 : decode (yB Y_Ni_copyFrom) 216 = .ok (.getfield 49, 3) := by decide +kernel
theorem d_Ni_copyFrom_219 : decode (yB Y_Ni_copyFrom) 219 = .ok (.putfield 49, 3) := by decide +kernel
theorem d_Ni_copyFrom_222 : decode (yB Y_Ni_copyFrom) 222 = .ok (.aload_n 0, 1) := by decide +kernel
theorem d_Ni_copyFrom_223 : decode (yB Y_Ni_copyFrom) 223 = .ok (.aload_n 1, 1) := by decide +kernel
theorem d_Ni_copyFrom_224 : decode (yB Y_Ni_copyFrom) 224 = .ok (.getfield 53, 3) := by decide +kernel
theorem d_Ni_copyFrom_227 : decode (yB Y_Ni_copyFrom) 227 = .ok (.putfield 53, 3) := by decide +kernel
theorem d_Ni_copyFrom_230 : decode (yB Y_Ni_copyFrom) 230 = .ok (.aload_n 0, 1) := by decide +kernel
theorem d_Ni_copyFrom_231 : decode (yB Y_Ni_copyFrom) 231 = .ok (.aload_n 1, 1) := by decide +kernel
theorem d_Ni_copyFrom_232 : decode (yB Y_Ni_copyFrom) 232 = .ok (.getfield 56, 3) := by decide +kernel
theorem d_Ni_copyFrom_235 : decode (yB Y_Ni_copyFrom) 235 = .ok (.putfield 56, 3) := by decide +kernel
theorem d_Ni_copyFrom_238 : decode (yB Y_Ni_copyFrom) 238 = .ok (.aload_n 0, 1) := by decide +kernel
theorem d_Ni_copyFrom_239 : decode (yB Y_Ni_copyFrom) 239 = .ok (.aload_n 1, 1) := by decide +kernel
theorem d_Ni_copyFrom_240 : decode (yB Y_Ni_copyFrom) 240 = .ok (.getfield 59, 3) := by decide +kernel
theorem d_Ni_copyFrom_243 : decode (yB Y_Ni_copyFrom) 243 = .ok (.putfield 59, 3) := by decide +kernel
theorem d_Ni_copyFrom_246 : decode (yB Y_Ni_copyFrom) 246 = .ok (.return_, 1) := by decide +kernel
def F_Ni_copyFrom_L190 (n : Nat) (E : zE) (S : zS) (r190 : Nat × Nat × Int32 × zH → Option (zH)) (a0 : Nat) (a1 : Nat) (x2 : Int32) (M : zH) : Option (zH) :=
  if 6 ≤ x2 then
    (zgI S M a1 3 11).bind fun v_2 =>
    (zpI S M a0 3 11 v_2).bind fun m_3 =>
    (zgI S m_3 a1 3 12).bind fun v_4 =>
    (zpI S m_3 a0 3 12 v_4).bind fun m_5 =>
    (zgI S m_5 a1 3 13).bind fun v_6 =>
    (zpI S m_5 a0 3 13 v_6).bind fun m_7 =>
    (zgI S m_7 a1 3 14).bind fun v_8 =>
    (zpI S m_7 a0 3 14 v_8).bind fun m_9 =>
    some (m_9)
  else
    (zgR S a0 3 10).bind fun b_10 =>
    (zgR S a1 3 10).bind fun b_11 =>
    (zldR S M 16 b_11 x2).bind fun o_12 =>
    (zstQ S M b_10 x2 o_12).bind fun m_13 =>
    r190 (a0, a1, x2 + 1, m_13)
def F_Ni_copyFrom_b190 (n : Nat) (E : zE) (S : zS) : Nat × Nat × Int32 × zH → Option (zH) := zfix (fun r190 s => F_Ni_copyFrom_L190 n E S r190 s.1 s.2.1 s.2.2.1 s.2.2.2) n
def F_Ni_copyFrom_L164 (n : Nat) (E : zE) (S : zS) (r164 : Nat × Nat × Int32 × zH → Option (zH)) (a0 : Nat) (a1 : Nat) (x2 : Int32) (M : zH) : Option (zH) :=
  if 32 ≤ x2 then
    F_Ni_copyFrom_b190 n E S (a0, a1, 0, M)
  else
    (zgR S a0 3 1).bind fun b_15 =>
    (zgR S a1 3 1).bind fun b_16 =>
    (zldZ S M b_16 x2).bind fun v_17 =>
    (zstZ S M b_15 x2 v_17).bind fun m_18 =>
    r164 (a0, a1, x2 + 1, m_18)
def F_Ni_copyFrom_b164 (n : Nat) (E : zE) (S : zS) : Nat × Nat × Int32 × zH → Option (zH) := zfix (fun r164 s => F_Ni_copyFrom_L164 n E S r164 s.1 s.2.1 s.2.2.1 s.2.2.2) n
def F_Ni_copyFrom (n : Nat) (E : zE) (S : zS) (a0 : Nat) (a1 : Nat) (M : zH) : Option (zH) :=
  (zgR S a1 3 0).bind fun b_19 =>
  (zgR S a0 3 0).bind fun b_20 =>
  (zlen S 12 b_20).bind fun v_21 =>
  (zcpy S M b_19 0 b_20 0 v_21).bind fun m_22 =>
  (zgR S a1 3 2).bind fun b_23 =>
  (zgR S a0 3 2).bind fun b_24 =>
  (zlen S 12 b_24).bind fun v_25 =>
  (zcpy S m_22 b_23 0 b_24 0 v_25).bind fun m_26 =>
  (zgR S a1 3 3).bind fun b_27 =>
  (zgR S a0 3 3).bind fun b_28 =>
  (zlen S 12 b_28).bind fun v_29 =>
  (zcpy S m_26 b_27 0 b_28 0 v_29).bind fun m_30 =>
  (zgR S a1 3 4).bind fun b_31 =>
  (zgR S a0 3 4).bind fun b_32 =>
  (zlen S 12 b_32).bind fun v_33 =>
  (zcpy S m_30 b_31 0 b_32 0 v_33).bind fun m_34 =>
  (zgR S a1 3 5).bind fun b_35 =>
  (zgR S a0 3 5).bind fun b_36 =>
  (zlen S 12 b_36).bind fun v_37 =>
  (zcpy S m_34 b_35 0 b_36 0 v_37).bind fun m_38 =>
  (zgR S a1 3 6).bind fun b_39 =>
  (zgR S a0 3 6).bind fun b_40 =>
  (zlen S 12 b_40).bind fun v_41 =>
  (zcpy S m_38 b_39 0 b_40 0 v_41).bind fun m_42 =>
  (zgR S a1 3 7).bind fun b_43 =>
  (zgR S a0 3 7).bind fun b_44 =>
  (zlen S 12 b_44).bind fun v_45 =>
  (zcpy S m_42 b_43 0 b_44 0 v_45).bind fun m_46 =>
  (zgR S a1 3 8).bind fun b_47 =>
  (zgR S a0 3 8).bind fun b_48 =>
  (zlen S 12 b_48).bind fun v_49 =>
  (zcpy S m_46 b_47 0 b_48 0 v_49).bind fun m_50 =>
  (zgR S a1 3 9).bind fun b_51 =>
  (zgR S a0 3 9).bind fun b_52 =>
  (zlen S 12 b_52).bind fun v_53 =>
  (zcpy S m_50 b_51 0 b_52 0 v_53).bind fun m_54 =>
  F_Ni_copyFrom_b164 n E S (a0, a1, 0, m_54)
theorem K_Ni_copyFrom_L190 (n : Nat) (E : zE) (S : zS) (r190 : Nat × Nat × Int32 × zH → Option (zH)) (a0 : Nat) (a1 : Nat) (x2 : Int32) (M : zH) (M' : zH) (hr190 : ∀ (a0 : Nat) (a1 : Nat) (x2 : Int32) (M : zH), r190 (a0, a1, x2, M) = some M' → zG E Y_Ni_copyFrom (none, S, M') 190 [(0, .ref a0), (1, .ref a1), (2, .int x2)] [] S M 0 0) (h : F_Ni_copyFrom_L190 n E S r190 a0 a1 x2 M = some M') : zG E Y_Ni_copyFrom (none, S, M') 190 [(0, .ref a0), (1, .ref a1), (2, .int x2)] [] S M 0 0 := by
  unfold F_Ni_copyFrom_L190 at h
  refine zi_iload_n 2 d_Ni_copyFrom_190 rfl ?_
  refine zi_bipush 6 d_Ni_copyFrom_191 rfl ?_
  refine zi_icmp_ge (tgt := 214) d_Ni_copyFrom_193 rfl (fun c_1 => ?_) (fun c_1 => ?_)
  · rw [if_pos c_1] at h
    refine zi_aload_n 0 d_Ni_copyFrom_214 rfl ?_
    refine zi_aload_n 1 d_Ni_copyFrom_215 rfl ?_
    obtain ⟨v_2, ev_2, h⟩ := zbind h
    refine zo_getI 219 zkd_3 11 d_Ni_copyFrom_216 ev_2 rfl tw_86 rfl ?_
    obtain ⟨m_3, em_3, h⟩ := zbind h
    refine zo_putI 222 zkd_3 11 d_Ni_copyFrom_219 em_3 rfl rfl rfl tw_86 rfl ?_
    refine zi_aload_n 0 d_Ni_copyFrom_222 rfl ?_
    refine zi_aload_n 1 d_Ni_copyFrom_223 rfl ?_
    obtain ⟨v_4, ev_4, h⟩ := zbind h
    refine zo_getI 227 zkd_3 12 d_Ni_copyFrom_224 ev_4 rfl tw_90 rfl ?_
    obtain ⟨m_5, em_5, h⟩ := zbind h
    refine zo_putI 230 zkd_3 12 d_Ni_copyFrom_227 em_5 rfl rfl rfl tw_90 rfl ?_
    refine zi_aload_n 0 d_Ni_copyFrom_230 rfl ?_
    refine zi_aload_n 1 d_Ni_copyFrom_231 rfl ?_
    obtain ⟨v_6, ev_6, h⟩ := zbind h
    refine zo_getI 235 zkd_3 13 d_Ni_copyFrom_232 ev_6 rfl tw_93 rfl ?_
    obtain ⟨m_7, em_7, h⟩ := zbind h
    refine zo_putI 238 zkd_3 13 d_Ni_copyFrom_235 em_7 rfl rfl rfl tw_93 rfl ?_
    refine zi_aload_n 0 d_Ni_copyFrom_238 rfl ?_
    refine zi_aload_n 1 d_Ni_copyFrom_239 rfl ?_
    obtain ⟨v_8, ev_8, h⟩ := zbind h
    refine zo_getI 243 zkd_3 14 d_Ni_copyFrom_240 ev_8 rfl tw_95 rfl ?_
    obtain ⟨m_9, em_9, h⟩ := zbind h
    refine zo_putI 246 zkd_3 14 d_Ni_copyFrom_243 em_9 rfl rfl rfl tw_95 rfl ?_
    cases h
    exact zo_ret d_Ni_copyFrom_246 (Nat.le_of_ble_eq_true rfl) (Nat.le_of_ble_eq_true rfl) rfl
  · rw [if_neg c_1] at h
    refine zi_aload_n 0 d_Ni_copyFrom_196 rfl ?_
    obtain ⟨b_10, eb_10, h⟩ := zbind h
    refine zo_getR 200 zkd_3 10 d_Ni_copyFrom_197 eb_10 rfl tw_85 rfl ?_
    refine zi_iload_n 2 d_Ni_copyFrom_200 rfl ?_
    refine zi_aload_n 1 d_Ni_copyFrom_201 rfl ?_
    obtain ⟨b_11, eb_11, h⟩ := zbind h
    refine zo_getR 205 zkd_3 10 d_Ni_copyFrom_202 eb_11 rfl tw_85 rfl ?_
    refine zi_iload_n 2 d_Ni_copyFrom_205 rfl ?_
    obtain ⟨o_12, eo_12, h⟩ := zbind h
    refine zo_aald 207 d_Ni_copyFrom_206 eo_12 (by decide) rfl ?_
    obtain ⟨m_13, em_13, h⟩ := zbind h
    refine zo_aastQ 208 d_Ni_copyFrom_207 em_13 rfl ?_
    refine zi_iinc 2 (x2 + 1) [(2, .int (x2 + 1)), (0, .ref a0), (1, .ref a1)] d_Ni_copyFrom_208 rfl rfl (by decide) rfl ?_
    refine zi_goto (tgt := 190) d_Ni_copyFrom_211 rfl ?_
    refine zi_lo [(0, .ref a0), (1, .ref a1), (2, .int (x2 + 1))] [1, 2, 0] rfl ?_
    exact hr190 a0 a1 (x2 + 1) m_13 h
theorem K_Ni_copyFrom_b190 (n : Nat) (E : zE) (S : zS) (a0 : Nat) (a1 : Nat) (x2 : Int32) (M : zH) (M' : zH)  (h : F_Ni_copyFrom_b190 n E S (a0, a1, x2, M) = some M') : zG E Y_Ni_copyFrom (none, S, M') 190 [(0, .ref a0), (1, .ref a1), (2, .int x2)] [] S M 0 0 := by
  have key : ∀ (k : Nat) (a0 : Nat) (a1 : Nat) (x2 : Int32) (M : zH), zfix (fun r190 s => F_Ni_copyFrom_L190 n E S r190 s.1 s.2.1 s.2.2.1 s.2.2.2) k (a0, a1, x2, M) = some M' → zG E Y_Ni_copyFrom (none, S, M') 190 [(0, .ref a0), (1, .ref a1), (2, .int x2)] [] S M 0 0 := by
    intro k
    induction k with
    | zero => intro a0 a1 x2 M h; cases h
    | succ k ih => intro a0 a1 x2 M h; exact K_Ni_copyFrom_L190 n E S _ a0 a1 x2 M M'  (fun a0 a1 x2 M h => ih a0 a1 x2 M h) h
  exact key n a0 a1 x2 M h
theorem K_Ni_copyFrom_L164 (n : Nat) (E : zE) (S : zS) (r164 : Nat × Nat × Int32 × zH → Option (zH)) (a0 : Nat) (a1 : Nat) (x2 : Int32) (M : zH) (M' : zH) (hr164 : ∀ (a0 : Nat) (a1 : Nat) (x2 : Int32) (M : zH), r164 (a0, a1, x2, M) = some M' → zG E Y_Ni_copyFrom (none, S, M') 164 [(0, .ref a0), (1, .ref a1), (2, .int x2)] [] S M 0 0) (h : F_Ni_copyFrom_L164 n E S r164 a0 a1 x2 M = some M') : zG E Y_Ni_copyFrom (none, S, M') 164 [(0, .ref a0), (1, .ref a1), (2, .int x2)] [] S M 0 0 := by
  unfold F_Ni_copyFrom_L164 at h
  refine zi_iload_n 2 d_Ni_copyFrom_164 rfl ?_
  refine zi_bipush 32 d_Ni_copyFrom_165 rfl ?_
  refine zi_icmp_ge (tgt := 188) d_Ni_copyFrom_167 rfl (fun c_14 => ?_) (fun c_14 => ?_)
  · rw [if_pos c_14] at h
    refine zi_iconst 0 d_Ni_copyFrom_188 rfl ?_
    refine zi_istore_n [(2, .int 0), (0, .ref a0), (1, .ref a1)] d_Ni_copyFrom_189 (by decide) rfl ?_
    refine zi_lo [(0, .ref a0), (1, .ref a1), (2, .int 0)] [1, 2, 0] rfl ?_
    exact K_Ni_copyFrom_b190 n E S a0 a1 0 M M'  h
  · rw [if_neg c_14] at h
    refine zi_aload_n 0 d_Ni_copyFrom_170 rfl ?_
    obtain ⟨b_15, eb_15, h⟩ := zbind h
    refine zo_getR 174 zkd_3 1 d_Ni_copyFrom_171 eb_15 rfl tw_46 rfl ?_
    refine zi_iload_n 2 d_Ni_copyFrom_174 rfl ?_
    refine zi_aload_n 1 d_Ni_copyFrom_175 rfl ?_
    obtain ⟨b_16, eb_16, h⟩ := zbind h
    refine zo_getR 179 zkd_3 1 d_Ni_copyFrom_176 eb_16 rfl tw_46 rfl ?_
    refine zi_iload_n 2 d_Ni_copyFrom_179 rfl ?_
    obtain ⟨v_17, ev_17, h⟩ := zbind h
    refine zo_zald 181 d_Ni_copyFrom_180 ev_17 rfl ?_
    obtain ⟨m_18, em_18, h⟩ := zbind h
    refine zo_zast 182 d_Ni_copyFrom_181 em_18 rfl ?_
    refine zi_iinc 2 (x2 + 1) [(2, .int (x2 + 1)), (0, .ref a0), (1, .ref a1)] d_Ni_copyFrom_182 rfl rfl (by decide) rfl ?_
    refine zi_goto (tgt := 164) d_Ni_copyFrom_185 rfl ?_
    refine zi_lo [(0, .ref a0), (1, .ref a1), (2, .int (x2 + 1))] [1, 2, 0] rfl ?_
    exact hr164 a0 a1 (x2 + 1) m_18 h
theorem K_Ni_copyFrom_b164 (n : Nat) (E : zE) (S : zS) (a0 : Nat) (a1 : Nat) (x2 : Int32) (M : zH) (M' : zH)  (h : F_Ni_copyFrom_b164 n E S (a0, a1, x2, M) = some M') : zG E Y_Ni_copyFrom (none, S, M') 164 [(0, .ref a0), (1, .ref a1), (2, .int x2)] [] S M 0 0 := by
  have key : ∀ (k : Nat) (a0 : Nat) (a1 : Nat) (x2 : Int32) (M : zH), zfix (fun r164 s => F_Ni_copyFrom_L164 n E S r164 s.1 s.2.1 s.2.2.1 s.2.2.2) k (a0, a1, x2, M) = some M' → zG E Y_Ni_copyFrom (none, S, M') 164 [(0, .ref a0), (1, .ref a1), (2, .int x2)] [] S M 0 0 := by
    intro k
    induction k with
    | zero => intro a0 a1 x2 M h; cases h
    | succ k ih => intro a0 a1 x2 M h; exact K_Ni_copyFrom_L164 n E S _ a0 a1 x2 M M'  (fun a0 a1 x2 M h => ih a0 a1 x2 M h) h
  exact key n a0 a1 x2 M h
theorem K_Ni_copyFrom (n : Nat) (E : zE) (S : zS) (a0 : Nat) (a1 : Nat) (M : zH) (M' : zH)  (h : F_Ni_copyFrom n E S a0 a1 M = some M') : zG E Y_Ni_copyFrom (none, S, M') 0 [(0, .ref a0), (1, .ref a1)] [] S M 0 0 := by
  unfold F_Ni_copyFrom at h
  refine zi_aload_n 1 d_Ni_copyFrom_0 rfl ?_
  obtain ⟨b_19, eb_19, h⟩ := zbind h
  refine zo_getR 4 zkd_3 0 d_Ni_copyFrom_1 eb_19 rfl tw_41 rfl ?_
  refine zi_iconst 0 d_Ni_copyFrom_4 rfl ?_
  refine zi_aload_n 0 d_Ni_copyFrom_5 rfl ?_
  obtain ⟨b_20, eb_20, h⟩ := zbind h
  refine zo_getR 9 zkd_3 0 d_Ni_copyFrom_6 eb_20 rfl tw_41 rfl ?_
  refine zi_iconst 0 d_Ni_copyFrom_9 rfl ?_
  refine zi_aload_n 0 d_Ni_copyFrom_10 rfl ?_
  refine zo_getR 14 zkd_3 0 d_Ni_copyFrom_11 eb_20 rfl tw_41 rfl ?_
  obtain ⟨v_21, ev_21, h⟩ := zbind h
  refine zo_alen 15 d_Ni_copyFrom_14 ev_21 (by decide) rfl ?_
  obtain ⟨m_22, em_22, h⟩ := zbind h
  refine zo_cpy 18 d_Ni_copyFrom_15 em_22 tw_866 zcpw rfl (by decide) (Nat.le_of_ble_eq_true rfl) ?_
  refine zi_aload_n 1 d_Ni_copyFrom_18 rfl ?_
  obtain ⟨b_23, eb_23, h⟩ := zbind h
  refine zo_getR 22 zkd_3 2 d_Ni_copyFrom_19 eb_23 rfl tw_52 rfl ?_
  refine zi_iconst 0 d_Ni_copyFrom_22 rfl ?_
  refine zi_aload_n 0 d_Ni_copyFrom_23 rfl ?_
  obtain ⟨b_24, eb_24, h⟩ := zbind h
  refine zo_getR 27 zkd_3 2 d_Ni_copyFrom_24 eb_24 rfl tw_52 rfl ?_
  refine zi_iconst 0 d_Ni_copyFrom_27 rfl ?_
  refine zi_aload_n 0 d_Ni_copyFrom_28 rfl ?_
  refine zo_getR 32 zkd_3 2 d_Ni_copyFrom_29 eb_24 rfl tw_52 rfl ?_
  obtain ⟨v_25, ev_25, h⟩ := zbind h
  refine zo_alen 33 d_Ni_copyFrom_32 ev_25 (by decide) rfl ?_
  obtain ⟨m_26, em_26, h⟩ := zbind h
  refine zo_cpy 36 d_Ni_copyFrom_33 em_26 tw_866 zcpw rfl (by decide) (Nat.le_of_ble_eq_true rfl) ?_
  refine zi_aload_n 1 d_Ni_copyFrom_36 rfl ?_
  obtain ⟨b_27, eb_27, h⟩ := zbind h
  refine zo_getR 40 zkd_3 3 d_Ni_copyFrom_37 eb_27 rfl tw_56 rfl ?_
  refine zi_iconst 0 d_Ni_copyFrom_40 rfl ?_
  refine zi_aload_n 0 d_Ni_copyFrom_41 rfl ?_
  obtain ⟨b_28, eb_28, h⟩ := zbind h
  refine zo_getR 45 zkd_3 3 d_Ni_copyFrom_42 eb_28 rfl tw_56 rfl ?_
  refine zi_iconst 0 d_Ni_copyFrom_45 rfl ?_
  refine zi_aload_n 0 d_Ni_copyFrom_46 rfl ?_
  refine zo_getR 50 zkd_3 3 d_Ni_copyFrom_47 eb_28 rfl tw_56 rfl ?_
  obtain ⟨v_29, ev_29, h⟩ := zbind h
  refine zo_alen 51 d_Ni_copyFrom_50 ev_29 (by decide) rfl ?_
  obtain ⟨m_30, em_30, h⟩ := zbind h
  refine zo_cpy 54 d_Ni_copyFrom_51 em_30 tw_866 zcpw rfl (by decide) (Nat.le_of_ble_eq_true rfl) ?_
  refine zi_aload_n 1 d_Ni_copyFrom_54 rfl ?_
  obtain ⟨b_31, eb_31, h⟩ := zbind h
  refine zo_getR 58 zkd_3 4 d_Ni_copyFrom_55 eb_31 rfl tw_60 rfl ?_
  refine zi_iconst 0 d_Ni_copyFrom_58 rfl ?_
  refine zi_aload_n 0 d_Ni_copyFrom_59 rfl ?_
  obtain ⟨b_32, eb_32, h⟩ := zbind h
  refine zo_getR 63 zkd_3 4 d_Ni_copyFrom_60 eb_32 rfl tw_60 rfl ?_
  refine zi_iconst 0 d_Ni_copyFrom_63 rfl ?_
  refine zi_aload_n 0 d_Ni_copyFrom_64 rfl ?_
  refine zo_getR 68 zkd_3 4 d_Ni_copyFrom_65 eb_32 rfl tw_60 rfl ?_
  obtain ⟨v_33, ev_33, h⟩ := zbind h
  refine zo_alen 69 d_Ni_copyFrom_68 ev_33 (by decide) rfl ?_
  obtain ⟨m_34, em_34, h⟩ := zbind h
  refine zo_cpy 72 d_Ni_copyFrom_69 em_34 tw_866 zcpw rfl (by decide) (Nat.le_of_ble_eq_true rfl) ?_
  refine zi_aload_n 1 d_Ni_copyFrom_72 rfl ?_
  obtain ⟨b_35, eb_35, h⟩ := zbind h
  refine zo_getR 76 zkd_3 5 d_Ni_copyFrom_73 eb_35 rfl tw_67 rfl ?_
  refine zi_iconst 0 d_Ni_copyFrom_76 rfl ?_
  refine zi_aload_n 0 d_Ni_copyFrom_77 rfl ?_
  obtain ⟨b_36, eb_36, h⟩ := zbind h
  refine zo_getR 81 zkd_3 5 d_Ni_copyFrom_78 eb_36 rfl tw_67 rfl ?_
  refine zi_iconst 0 d_Ni_copyFrom_81 rfl ?_
  refine zi_aload_n 0 d_Ni_copyFrom_82 rfl ?_
  refine zo_getR 86 zkd_3 5 d_Ni_copyFrom_83 eb_36 rfl tw_67 rfl ?_
  obtain ⟨v_37, ev_37, h⟩ := zbind h
  refine zo_alen 87 d_Ni_copyFrom_86 ev_37 (by decide) rfl ?_
  obtain ⟨m_38, em_38, h⟩ := zbind h
  refine zo_cpy 90 d_Ni_copyFrom_87 em_38 tw_866 zcpw rfl (by decide) (Nat.le_of_ble_eq_true rfl) ?_
  refine zi_aload_n 1 d_Ni_copyFrom_90 rfl ?_
  obtain ⟨b_39, eb_39, h⟩ := zbind h
  refine zo_getR 94 zkd_3 6 d_Ni_copyFrom_91 eb_39 rfl tw_73 rfl ?_
  refine zi_iconst 0 d_Ni_copyFrom_94 rfl ?_
  refine zi_aload_n 0 d_Ni_copyFrom_95 rfl ?_
  obtain ⟨b_40, eb_40, h⟩ := zbind h
  refine zo_getR 99 zkd_3 6 d_Ni_copyFrom_96 eb_40 rfl tw_73 rfl ?_
  refine zi_iconst 0 d_Ni_copyFrom_99 rfl ?_
  refine zi_aload_n 0 d_Ni_copyFrom_100 rfl ?_
  refine zo_getR 104 zkd_3 6 d_Ni_copyFrom_101 eb_40 rfl tw_73 rfl ?_
  obtain ⟨v_41, ev_41, h⟩ := zbind h
  refine zo_alen 105 d_Ni_copyFrom_104 ev_41 (by decide) rfl ?_
  obtain ⟨m_42, em_42, h⟩ := zbind h
  refine zo_cpy 108 d_Ni_copyFrom_105 em_42 tw_866 zcpw rfl (by decide) (Nat.le_of_ble_eq_true rfl) ?_
  refine zi_aload_n 1 d_Ni_copyFrom_108 rfl ?_
  obtain ⟨b_43, eb_43, h⟩ := zbind h
  refine zo_getR 112 zkd_3 7 d_Ni_copyFrom_109 eb_43 rfl tw_76 rfl ?_
  refine zi_iconst 0 d_Ni_copyFrom_112 rfl ?_
  refine zi_aload_n 0 d_Ni_copyFrom_113 rfl ?_
  obtain ⟨b_44, eb_44, h⟩ := zbind h
  refine zo_getR 117 zkd_3 7 d_Ni_copyFrom_114 eb_44 rfl tw_76 rfl ?_
  refine zi_iconst 0 d_Ni_copyFrom_117 rfl ?_
  refine zi_aload_n 0 d_Ni_copyFrom_118 rfl ?_
  refine zo_getR 122 zkd_3 7 d_Ni_copyFrom_119 eb_44 rfl tw_76 rfl ?_
  obtain ⟨v_45, ev_45, h⟩ := zbind h
  refine zo_alen 123 d_Ni_copyFrom_122 ev_45 (by decide) rfl ?_
  obtain ⟨m_46, em_46, h⟩ := zbind h
  refine zo_cpy 126 d_Ni_copyFrom_123 em_46 tw_866 zcpw rfl (by decide) (Nat.le_of_ble_eq_true rfl) ?_
  refine zi_aload_n 1 d_Ni_copyFrom_126 rfl ?_
  obtain ⟨b_47, eb_47, h⟩ := zbind h
  refine zo_getR 130 zkd_3 8 d_Ni_copyFrom_127 eb_47 rfl tw_78 rfl ?_
  refine zi_iconst 0 d_Ni_copyFrom_130 rfl ?_
  refine zi_aload_n 0 d_Ni_copyFrom_131 rfl ?_
  obtain ⟨b_48, eb_48, h⟩ := zbind h
  refine zo_getR 135 zkd_3 8 d_Ni_copyFrom_132 eb_48 rfl tw_78 rfl ?_
  refine zi_iconst 0 d_Ni_copyFrom_135 rfl ?_
  refine zi_aload_n 0 d_Ni_copyFrom_136 rfl ?_
  refine zo_getR 140 zkd_3 8 d_Ni_copyFrom_137 eb_48 rfl tw_78 rfl ?_
  obtain ⟨v_49, ev_49, h⟩ := zbind h
  refine zo_alen 141 d_Ni_copyFrom_140 ev_49 (by decide) rfl ?_
  obtain ⟨m_50, em_50, h⟩ := zbind h
  refine zo_cpy 144 d_Ni_copyFrom_141 em_50 tw_866 zcpw rfl (by decide) (Nat.le_of_ble_eq_true rfl) ?_
  refine zi_aload_n 1 d_Ni_copyFrom_144 rfl ?_
  obtain ⟨b_51, eb_51, h⟩ := zbind h
  refine zo_getR 148 zkd_3 9 d_Ni_copyFrom_145 eb_51 rfl tw_80 rfl ?_
  refine zi_iconst 0 d_Ni_copyFrom_148 rfl ?_
  refine zi_aload_n 0 d_Ni_copyFrom_149 rfl ?_
  obtain ⟨b_52, eb_52, h⟩ := zbind h
  refine zo_getR 153 zkd_3 9 d_Ni_copyFrom_150 eb_52 rfl tw_80 rfl ?_
  refine zi_iconst 0 d_Ni_copyFrom_153 rfl ?_
  refine zi_aload_n 0 d_Ni_copyFrom_154 rfl ?_
  refine zo_getR 158 zkd_3 9 d_Ni_copyFrom_155 eb_52 rfl tw_80 rfl ?_
  obtain ⟨v_53, ev_53, h⟩ := zbind h
  refine zo_alen 159 d_Ni_copyFrom_158 ev_53 (by decide) rfl ?_
  obtain ⟨m_54, em_54, h⟩ := zbind h
  refine zo_cpy 162 d_Ni_copyFrom_159 em_54 tw_866 zcpw rfl (by decide) (Nat.le_of_ble_eq_true rfl) ?_
  refine zi_iconst 0 d_Ni_copyFrom_162 rfl ?_
  refine zi_istore_n [(2, .int 0), (0, .ref a0), (1, .ref a1)] d_Ni_copyFrom_163 (by decide) rfl ?_
  refine zi_lo [(0, .ref a0), (1, .ref a1), (2, .int 0)] [1, 2, 0] rfl ?_
  exact K_Ni_copyFrom_b164 n E S a0 a1 0 m_54 M'  h
theorem C_Ni_copyFrom (n : Nat) (E : zE) (S : zS) (a0 : Nat) (a1 : Nat) (M : zH) (M' : zH) (h : F_Ni_copyFrom n E S a0 a1 M = some M') : zC E Y_Ni_copyFrom [.ref a0, .ref a1] S M (none, S, M') :=
  zC.of (Or.inl (show plainName "NightColander$Night" = true by decide)) (Nat.le_of_ble_eq_true rfl) (trivial) (K_Ni_copyFrom n E S a0 a1 M M' h)
theorem d_Pt_copyFrom_0 : decode (yB Y_Pt_copyFrom) 0 = .ok (.aload_n 1, 1) := by decide +kernel
theorem d_Pt_copyFrom_1 : decode (yB Y_Pt_copyFrom) 1 = .ok (.getfield 11, 3) := by decide +kernel
theorem d_Pt_copyFrom_4 : decode (yB Y_Pt_copyFrom) 4 = .ok (.iconst 0, 1) := by decide +kernel
theorem d_Pt_copyFrom_5 : decode (yB Y_Pt_copyFrom) 5 = .ok (.aload_n 0, 1) := by decide +kernel
theorem d_Pt_copyFrom_6 : decode (yB Y_Pt_copyFrom) 6 = .ok (.getfield 11, 3) := by decide +kernel
theorem d_Pt_copyFrom_9 : decode (yB Y_Pt_copyFrom) 9 = .ok (.iconst 0, 1) := by decide +kernel
theorem d_Pt_copyFrom_10 : decode (yB Y_Pt_copyFrom) 10 = .ok (.aload_n 0, 1) := by decide +kernel
theorem d_Pt_copyFrom_11 : decode (yB Y_Pt_copyFrom) 11 = .ok (.getfield 11, 3) := by decide +kernel
theorem d_Pt_copyFrom_14 : decode (yB Y_Pt_copyFrom) 14 = .ok (.arraylength, 1) := by decide +kernel
theorem d_Pt_copyFrom_15 : decode (yB Y_Pt_copyFrom) 15 = .ok (.invokestatic 19, 3) := by decide +kernel
theorem d_Pt_copyFrom_18 : decode (yB Y_Pt_copyFrom) 18 = .ok (.aload_n 0, 1) := by decide +kernel
theorem d_Pt_copyFrom_19 : decode (yB Y_Pt_copyFrom) 19 = .ok (.aload_n 1, 1) := by decide +kernel
theorem d_Pt_copyFrom_20 : decode (yB Y_Pt_copyFrom) 20 = .ok (.getfield 15, 3) := by decide +kernel
theorem d_Pt_copyFrom_23 : decode (yB Y_Pt_copyFrom) 23 = .ok (.putfield 15, 3) := by decide +kernel
theorem d_Pt_copyFrom_26 : decode (yB Y_Pt_copyFrom) 26 = .ok (.return_, 1) := by decide +kernel
def F_Pt_copyFrom (n : Nat) (E : zE) (S : zS) (a0 : Nat) (a1 : Nat) (M : zH) : Option (zH) :=
  (zgR S a1 6 0).bind fun b_1 =>
  (zgR S a0 6 0).bind fun b_2 =>
  (zlen S 12 b_2).bind fun v_3 =>
  (zcpy S M b_1 0 b_2 0 v_3).bind fun m_4 =>
  (zgI S m_4 a1 6 1).bind fun v_5 =>
  (zpI S m_4 a0 6 1 v_5).bind fun m_6 =>
  some (m_6)
theorem K_Pt_copyFrom (n : Nat) (E : zE) (S : zS) (a0 : Nat) (a1 : Nat) (M : zH) (M' : zH)  (h : F_Pt_copyFrom n E S a0 a1 M = some M') : zG E Y_Pt_copyFrom (none, S, M') 0 [(0, .ref a0), (1, .ref a1)] [] S M 0 0 := by
  unfold F_Pt_copyFrom at h
  refine zi_aload_n 1 d_Pt_copyFrom_0 rfl ?_
  obtain ⟨b_1, eb_1, h⟩ := zbind h
  refine zo_getR 4 zkd_6 0 d_Pt_copyFrom_1 eb_1 rfl tw_138 rfl ?_
  refine zi_iconst 0 d_Pt_copyFrom_4 rfl ?_
  refine zi_aload_n 0 d_Pt_copyFrom_5 rfl ?_
  obtain ⟨b_2, eb_2, h⟩ := zbind h
  refine zo_getR 9 zkd_6 0 d_Pt_copyFrom_6 eb_2 rfl tw_138 rfl ?_
  refine zi_iconst 0 d_Pt_copyFrom_9 rfl ?_
  refine zi_aload_n 0 d_Pt_copyFrom_10 rfl ?_
  refine zo_getR 14 zkd_6 0 d_Pt_copyFrom_11 eb_2 rfl tw_138 rfl ?_
  obtain ⟨v_3, ev_3, h⟩ := zbind h
  refine zo_alen 15 d_Pt_copyFrom_14 ev_3 (by decide) rfl ?_
  obtain ⟨m_4, em_4, h⟩ := zbind h
  refine zo_cpy 18 d_Pt_copyFrom_15 em_4 tw_871 zcpw rfl (by decide) (Nat.le_of_ble_eq_true rfl) ?_
  refine zi_aload_n 0 d_Pt_copyFrom_18 rfl ?_
  refine zi_aload_n 1 d_Pt_copyFrom_19 rfl ?_
  obtain ⟨v_5, ev_5, h⟩ := zbind h
  refine zo_getI 23 zkd_6 1 d_Pt_copyFrom_20 ev_5 rfl tw_139 rfl ?_
  obtain ⟨m_6, em_6, h⟩ := zbind h
  refine zo_putI 26 zkd_6 1 d_Pt_copyFrom_23 em_6 rfl rfl rfl tw_139 rfl ?_
  cases h
  exact zo_ret d_Pt_copyFrom_26 (Nat.le_of_ble_eq_true rfl) (Nat.le_of_ble_eq_true rfl) rfl
theorem C_Pt_copyFrom (n : Nat) (E : zE) (S : zS) (a0 : Nat) (a1 : Nat) (M : zH) (M' : zH) (h : F_Pt_copyFrom n E S a0 a1 M = some M') : zC E Y_Pt_copyFrom [.ref a0, .ref a1] S M (none, S, M') :=
  zC.of (Or.inl (show plainName "NightColander$Past" = true by decide)) (Nat.le_of_ble_eq_true rfl) (trivial) (K_Pt_copyFrom n E S a0 a1 M M' h)
theorem d_De_changeBlock_0 : decode (yB Y_De_changeBlock) 0 = .ok (.aload_n 0, 1) := by decide +kernel
theorem d_De_changeBlock_1 : decode (yB Y_De_changeBlock) 1 = .ok (.getfield 94, 3) := by decide +kernel
theorem d_De_changeBlock_4 : decode (yB Y_De_changeBlock) 4 = .ok (.iload_n 1, 1) := by decide +kernel
theorem d_De_changeBlock_5 : decode (yB Y_De_changeBlock) 5 = .ok (.aload_n 0, 1) := by decide +kernel
theorem d_De_changeBlock_6 : decode (yB Y_De_changeBlock) 6 = .ok (.getfield 94, 3) := by decide +kernel
theorem d_De_changeBlock_9 : decode (yB Y_De_changeBlock) 9 = .ok (.iload_n 1, 1) := by decide +kernel
theorem d_De_changeBlock_10 : decode (yB Y_De_changeBlock) 10 = .ok (.baload, 1) := by decide +kernel
theorem d_De_changeBlock_11 : decode (yB Y_De_changeBlock) 11 = .ok (.ifCond .ne 7, 3) := by decide +kernel
theorem d_De_changeBlock_14 : decode (yB Y_De_changeBlock) 14 = .ok (.iconst 1, 1) := by decide +kernel
theorem d_De_changeBlock_15 : decode (yB Y_De_changeBlock) 15 = .ok (.goto 4, 3) := by decide +kernel
theorem d_De_changeBlock_18 : decode (yB Y_De_changeBlock) 18 = .ok (.iconst 0, 1) := by decide +kernel
theorem d_De_changeBlock_19 : decode (yB Y_De_changeBlock) 19 = .ok (.bastore, 1) := by decide +kernel
theorem d_De_changeBlock_20 : decode (yB Y_De_changeBlock) 20 = .ok (.aload_n 0, 1) := by decide +kernel
theorem d_De_changeBlock_21 : decode (yB Y_De_changeBlock) 21 = .ok (.getfield 94, 3) := by decide +kernel
theorem d_De_changeBlock_24 : decode (yB Y_De_changeBlock) 24 = .ok (.iload_n 1, 1) := by decide +kernel
theorem d_De_changeBlock_25 : decode (yB Y_De_changeBlock) 25 = .ok (.baload, 1) := by decide +kernel
theorem d_De_changeBlock_26 : decode (yB Y_De_changeBlock) 26 = .ok (.ifCond .eq 7, 3) := by decide +kernel
theorem d_De_changeBlock_29 : decode (yB Y_De_changeBlock) 29 = .ok (.iconst 1, 1) := by decide +kernel
theorem d_De_changeBlock_30 : decode (yB Y_De_changeBlock) 30 = .ok (.goto 4, 3) := by decide +kernel
theorem d_De_changeBlock_33 : decode (yB Y_De_changeBlock) 33 = .ok (.iconst 0, 1) := by decide +kernel
theorem d_De_changeBlock_34 : decode (yB Y_De_changeBlock) 34 = .ok (.ireturn, 1) := by decide +kernel
def F_De_changeBlock_b19 (n : Nat) (E : zE) (S : zS) (a0 : Nat) (x1 : Int32) (s0 : Int32) (s1 : Int32) (u2 : Nat) (M : zH) : Option (Int32 × zH) :=
  (zstZ S M u2 s1 s0).bind fun m_1 =>
  (zgR S a0 3 1).bind fun b_2 =>
  (zldZ S m_1 b_2 x1).bind fun v_3 =>
  if v_3 = 0 then
    some (0, m_1)
  else
    some (1, m_1)
def F_De_changeBlock (n : Nat) (E : zE) (S : zS) (a0 : Nat) (x1 : Int32) (M : zH) : Option (Int32 × zH) :=
  (zgR S a0 3 1).bind fun b_5 =>
  (zldZ S M b_5 x1).bind fun v_6 =>
  if v_6 = 0 then
    F_De_changeBlock_b19 n E S a0 x1 1 x1 b_5 M
  else
    F_De_changeBlock_b19 n E S a0 x1 0 x1 b_5 M
theorem K_De_changeBlock_b19 (n : Nat) (E : zE) (S : zS) (a0 : Nat) (x1 : Int32) (s0 : Int32) (s1 : Int32) (u2 : Nat) (M : zH) (r : Int32) (M' : zH)  (h : F_De_changeBlock_b19 n E S a0 x1 s0 s1 u2 M = some (r, M')) : zG E Y_De_changeBlock (some (.int r), S, M') 19 [(0, .ref a0), (1, .int x1)] [.int s0, .int s1, .ref u2] S M 0 0 := by
  unfold F_De_changeBlock_b19 at h
  obtain ⟨m_1, em_1, h⟩ := zbind h
  refine zo_zast 20 d_De_changeBlock_19 em_1 rfl ?_
  refine zi_aload_n 0 d_De_changeBlock_20 rfl ?_
  obtain ⟨b_2, eb_2, h⟩ := zbind h
  refine zo_getR 24 zkd_3 1 d_De_changeBlock_21 eb_2 rfl tw_49 rfl ?_
  refine zi_iload_n 1 d_De_changeBlock_24 rfl ?_
  obtain ⟨v_3, ev_3, h⟩ := zbind h
  refine zo_zald 26 d_De_changeBlock_25 ev_3 rfl ?_
  refine zi_if_eq (tgt := 33) d_De_changeBlock_26 rfl (fun c_4 => ?_) (fun c_4 => ?_)
  · rw [if_pos c_4] at h
    refine zi_iconst 0 d_De_changeBlock_33 rfl ?_
    cases h
    exact zo_ret d_De_changeBlock_34 (Nat.le_of_ble_eq_true rfl) (Nat.le_of_ble_eq_true rfl) rfl
  · rw [if_neg c_4] at h
    refine zi_iconst 1 d_De_changeBlock_29 rfl ?_
    refine zi_goto (tgt := 34) d_De_changeBlock_30 rfl ?_
    cases h
    exact zo_ret d_De_changeBlock_34 (Nat.le_of_ble_eq_true rfl) (Nat.le_of_ble_eq_true rfl) rfl
theorem K_De_changeBlock (n : Nat) (E : zE) (S : zS) (a0 : Nat) (x1 : Int32) (M : zH) (r : Int32) (M' : zH)  (h : F_De_changeBlock n E S a0 x1 M = some (r, M')) : zG E Y_De_changeBlock (some (.int r), S, M') 0 [(0, .ref a0), (1, .int x1)] [] S M 0 0 := by
  unfold F_De_changeBlock at h
  refine zi_aload_n 0 d_De_changeBlock_0 rfl ?_
  obtain ⟨b_5, eb_5, h⟩ := zbind h
  refine zo_getR 4 zkd_3 1 d_De_changeBlock_1 eb_5 rfl tw_49 rfl ?_
  refine zi_iload_n 1 d_De_changeBlock_4 rfl ?_
  refine zi_aload_n 0 d_De_changeBlock_5 rfl ?_
  refine zo_getR 9 zkd_3 1 d_De_changeBlock_6 eb_5 rfl tw_49 rfl ?_
  refine zi_iload_n 1 d_De_changeBlock_9 rfl ?_
  obtain ⟨v_6, ev_6, h⟩ := zbind h
  refine zo_zald 11 d_De_changeBlock_10 ev_6 rfl ?_
  refine zi_if_ne (tgt := 18) d_De_changeBlock_11 rfl (fun c_7 => ?_) (fun c_7 => ?_)
  · rw [if_neg c_7] at h
    refine zi_iconst 0 d_De_changeBlock_18 rfl ?_
    refine zi_lo [(0, .ref a0), (1, .int x1)] [0, 1] rfl ?_
    exact K_De_changeBlock_b19 n E S a0 x1 0 x1 b_5 M r M'  h
  · rw [if_pos c_7] at h
    refine zi_iconst 1 d_De_changeBlock_14 rfl ?_
    refine zi_goto (tgt := 19) d_De_changeBlock_15 rfl ?_
    refine zi_lo [(0, .ref a0), (1, .int x1)] [0, 1] rfl ?_
    exact K_De_changeBlock_b19 n E S a0 x1 1 x1 b_5 M r M'  h
theorem C_De_changeBlock (n : Nat) (E : zE) (S : zS) (a0 : Nat) (x1 : Int32) (M : zH) (r : Int32) (M' : zH) (h : F_De_changeBlock n E S a0 x1 M = some (r, M')) : zC E Y_De_changeBlock [.ref a0, .int x1] S M (some (.int r), S, M') :=
  zC.of (Or.inl (show plainName "NightColander$Deeds" = true by decide)) (Nat.le_of_ble_eq_true rfl) (trivial) (K_De_changeBlock n E S a0 x1 M r M' h)
theorem d_Ni_turnAll_0 : decode (yB Y_Ni_turnAll) 0 = .ok (.iconst 0, 1) := by decide +kernel
theorem d_Ni_turnAll_1 : decode (yB Y_Ni_turnAll) 1 = .ok (.istore_n 2, 1) := by decide +kernel
theorem d_Ni_turnAll_2 : decode (yB Y_Ni_turnAll) 2 = .ok (.iload_n 2, 1) := by decide +kernel
theorem d_Ni_turnAll_3 : decode (yB Y_Ni_turnAll) 3 = .ok (.iconst 4, 1) := by decide +kernel
theorem d_Ni_turnAll_4 : decode (yB Y_Ni_turnAll) 4 = .ok (.if_icmp .ge 32, 3) := by decide +kernel
theorem d_Ni_turnAll_7 : decode (yB Y_Ni_turnAll) 7 = .ok (.aload_n 0, 1) := by decide +kernel
theorem d_Ni_turnAll_8 : decode (yB Y_Ni_turnAll) 8 = .ok (.getfield 19, 3) := by decide +kernel
theorem d_Ni_turnAll_11 : decode (yB Y_Ni_turnAll) 11 = .ok (.iload_n 2, 1) := by decide +kernel
theorem d_Ni_turnAll_12 : decode (yB Y_Ni_turnAll) 12 = .ok (.aload_n 0, 1) := by decide +kernel
theorem d_Ni_turnAll_13 : decode (yB Y_Ni_turnAll) 13 = .ok (.getfield 19, 3) := by decide +kernel
theorem d_Ni_turnAll_16 : decode (yB Y_Ni_turnAll) 16 = .ok (.iload_n 2, 1) := by decide +kernel
theorem d_Ni_turnAll_17 : decode (yB Y_Ni_turnAll) 17 = .ok (.iaload, 1) := by decide +kernel
theorem d_Ni_turnAll_18 : decode (yB Y_Ni_turnAll) 18 = .ok (.iload_n 1, 1) := by decide +kernel
theorem d_Ni_turnAll_19 : decode (yB Y_Ni_turnAll) 19 = .ok (.iload_n 2, 1) := by decide +kernel
theorem d_Ni_turnAll_20 : decode (yB Y_Ni_turnAll) 20 = .ok (.iconst 1, 1) := by decide +kernel
theorem d_Ni_turnAll_21 : decode (yB Y_Ni_turnAll) 21 = .ok (.iadd, 1) := by decide +kernel
theorem d_Ni_turnAll_22 : decode (yB Y_Ni_turnAll) 22 = .ok (.imul, 1) := by decide +kernel
theorem d_Ni_turnAll_23 : decode (yB Y_Ni_turnAll) 23 = .ok (.iadd, 1) := by decide +kernel
theorem d_Ni_turnAll_24 : decode (yB Y_Ni_turnAll) 24 = .ok (.bipush 8, 2) := by decide +kernel
theorem d_Ni_turnAll_26 : decode (yB Y_Ni_turnAll) 26 = .ok (.invokestatic 78, 3) := by decide +kernel
theorem d_Ni_turnAll_29 : decode (yB Y_Ni_turnAll) 29 = .ok (.iastore, 1) := by decide +kernel
theorem d_Ni_turnAll_30 : decode (yB Y_Ni_turnAll) 30 = .ok (.iinc 2 1, 3) := by decide +kernel
theorem d_Ni_turnAll_33 : decode (yB Y_Ni_turnAll) 33 = .ok (.goto (-31), 3) := by decide +kernel
theorem d_Ni_turnAll_36 : decode (yB Y_Ni_turnAll) 36 = .ok (.aload_n 0, 1) := by decide +kernel
theorem d_Ni_turnAll_37 : decode (yB Y_Ni_turnAll) 37 = .ok (.getfield 40, 3) := by decide +kernel
theorem d_Ni_turnAll_40 : decode (yB Y_Ni_turnAll) 40 = .ok (.iconst 0, 1) := by decide +kernel
theorem d_Ni_turnAll_41 : decode (yB Y_Ni_turnAll) 41 = .ok (.dup2, 1) := by decide +kernel
theorem d_Ni_turnAll_42 : decode (yB Y_Ni_turnAll) 42 = .ok (.iaload, 1) := by decide +kernel
theorem d_Ni_turnAll_43 : decode (yB Y_Ni_turnAll) 43 = .ok (.iload_n 1, 1) := by decide +kernel
theorem d_Ni_turnAll_44 : decode (yB Y_Ni_turnAll) 44 = .ok (.iadd, 1) := by decide +kernel
theorem d_Ni_turnAll_45 : decode (yB Y_Ni_turnAll) 45 = .ok (.iastore, 1) := by decide +kernel
theorem d_Ni_turnAll_46 : decode (yB Y_Ni_turnAll) 46 = .ok (.return_, 1) := by decide +kernel
def F_Ni_turnAll_L2 (n : Nat) (E : zE) (S : zS) (r2 : Nat × Int32 × Int32 × zH → Option (zH)) (a0 : Nat) (x1 : Int32) (x2 : Int32) (M : zH) : Option (zH) :=
  if 4 ≤ x2 then
    (zgR S a0 3 9).bind fun b_2 =>
    (zldI S M b_2 0).bind fun v_3 =>
    (zstI S M b_2 0 (v_3 + x1)).bind fun m_4 =>
    some (m_4)
  else
    (zgR S a0 3 2).bind fun b_5 =>
    (zldI S M b_5 x2).bind fun v_6 =>
    (F_Jm_floorMod n E S (v_6 + (x1 * (x2 + 1))) 8 M).bind fun q_7 =>
    (zstI S q_7.2 b_5 x2 q_7.1).bind fun m_8 =>
    r2 (a0, x1, x2 + 1, m_8)
def F_Ni_turnAll_b2 (n : Nat) (E : zE) (S : zS) : Nat × Int32 × Int32 × zH → Option (zH) := zfix (fun r2 s => F_Ni_turnAll_L2 n E S r2 s.1 s.2.1 s.2.2.1 s.2.2.2) n
def F_Ni_turnAll (n : Nat) (E : zE) (S : zS) (a0 : Nat) (x1 : Int32) (M : zH) : Option (zH) :=
  F_Ni_turnAll_b2 n E S (a0, x1, 0, M)
theorem K_Ni_turnAll_L2 (n : Nat) (E : zE) (S : zS) (r2 : Nat × Int32 × Int32 × zH → Option (zH)) (a0 : Nat) (x1 : Int32) (x2 : Int32) (M : zH) (M' : zH) (hr2 : ∀ (a0 : Nat) (x1 : Int32) (x2 : Int32) (M : zH), r2 (a0, x1, x2, M) = some M' → zG E Y_Ni_turnAll (none, S, M') 2 [(0, .ref a0), (1, .int x1), (2, .int x2)] [] S M 0 0) (h : F_Ni_turnAll_L2 n E S r2 a0 x1 x2 M = some M') : zG E Y_Ni_turnAll (none, S, M') 2 [(0, .ref a0), (1, .int x1), (2, .int x2)] [] S M 0 0 := by
  unfold F_Ni_turnAll_L2 at h
  refine zi_iload_n 2 d_Ni_turnAll_2 rfl ?_
  refine zi_iconst 4 d_Ni_turnAll_3 rfl ?_
  refine zi_icmp_ge (tgt := 36) d_Ni_turnAll_4 rfl (fun c_1 => ?_) (fun c_1 => ?_)
  · rw [if_pos c_1] at h
    refine zi_aload_n 0 d_Ni_turnAll_36 rfl ?_
    obtain ⟨b_2, eb_2, h⟩ := zbind h
    refine zo_getR 40 zkd_3 9 d_Ni_turnAll_37 eb_2 rfl tw_80 rfl ?_
    refine zi_iconst 0 d_Ni_turnAll_40 rfl ?_
    refine zi_dup2 d_Ni_turnAll_41 rfl rfl ?_
    obtain ⟨v_3, ev_3, h⟩ := zbind h
    refine zo_iald 43 d_Ni_turnAll_42 ev_3 rfl ?_
    refine zi_iload_n 1 d_Ni_turnAll_43 rfl ?_
    refine zi_iadd d_Ni_turnAll_44 ?_
    obtain ⟨m_4, em_4, h⟩ := zbind h
    refine zo_iast 46 d_Ni_turnAll_45 em_4 rfl ?_
    cases h
    exact zo_ret d_Ni_turnAll_46 (Nat.le_of_ble_eq_true rfl) (Nat.le_of_ble_eq_true rfl) rfl
  · rw [if_neg c_1] at h
    refine zi_aload_n 0 d_Ni_turnAll_7 rfl ?_
    obtain ⟨b_5, eb_5, h⟩ := zbind h
    refine zo_getR 11 zkd_3 2 d_Ni_turnAll_8 eb_5 rfl tw_52 rfl ?_
    refine zi_iload_n 2 d_Ni_turnAll_11 rfl ?_
    refine zi_aload_n 0 d_Ni_turnAll_12 rfl ?_
    refine zo_getR 16 zkd_3 2 d_Ni_turnAll_13 eb_5 rfl tw_52 rfl ?_
    refine zi_iload_n 2 d_Ni_turnAll_16 rfl ?_
    obtain ⟨v_6, ev_6, h⟩ := zbind h
    refine zo_iald 18 d_Ni_turnAll_17 ev_6 rfl ?_
    refine zi_iload_n 1 d_Ni_turnAll_18 rfl ?_
    refine zi_iload_n 2 d_Ni_turnAll_19 rfl ?_
    refine zi_iconst 1 d_Ni_turnAll_20 rfl ?_
    refine zi_iadd d_Ni_turnAll_21 ?_
    refine zi_imul d_Ni_turnAll_22 ?_
    refine zi_iadd d_Ni_turnAll_23 ?_
    refine zi_bipush 8 d_Ni_turnAll_24 rfl ?_
    obtain ⟨q_7, eq_7, h⟩ := zbind h
    refine zo_stat (k' := 0) (n' := 0) 29 [.int (v_6 + (x1 * (x2 + 1))), .int 8] [.int x2, .ref b_5] [.int q_7.1, .int x2, .ref b_5] (C_Jm_floorMod n E S (v_6 + (x1 * (x2 + 1))) 8 M q_7.1 q_7.2 eq_7) d_Ni_turnAll_26 tw_409 tw_407 tw_408 tw_14 dd_Jm_floorMod ⟨Nat.le_of_ble_eq_true rfl, Nat.le_of_ble_eq_true rfl, Nat.le_of_ble_eq_true rfl, Nat.le_of_ble_eq_true rfl⟩ (Nat.le_of_ble_eq_true rfl) rfl rfl rfl rfl ?_
    obtain ⟨m_8, em_8, h⟩ := zbind h
    refine zo_iast 30 d_Ni_turnAll_29 em_8 rfl ?_
    refine zi_iinc 2 (x2 + 1) [(2, .int (x2 + 1)), (0, .ref a0), (1, .int x1)] d_Ni_turnAll_30 rfl rfl (by decide) rfl ?_
    refine zi_goto (tgt := 2) d_Ni_turnAll_33 rfl ?_
    refine zi_lo [(0, .ref a0), (1, .int x1), (2, .int (x2 + 1))] [1, 2, 0] rfl ?_
    exact hr2 a0 x1 (x2 + 1) m_8 h
theorem K_Ni_turnAll_b2 (n : Nat) (E : zE) (S : zS) (a0 : Nat) (x1 : Int32) (x2 : Int32) (M : zH) (M' : zH)  (h : F_Ni_turnAll_b2 n E S (a0, x1, x2, M) = some M') : zG E Y_Ni_turnAll (none, S, M') 2 [(0, .ref a0), (1, .int x1), (2, .int x2)] [] S M 0 0 := by
  have key : ∀ (k : Nat) (a0 : Nat) (x1 : Int32) (x2 : Int32) (M : zH), zfix (fun r2 s => F_Ni_turnAll_L2 n E S r2 s.1 s.2.1 s.2.2.1 s.2.2.2) k (a0, x1, x2, M) = some M' → zG E Y_Ni_turnAll (none, S, M') 2 [(0, .ref a0), (1, .int x1), (2, .int x2)] [] S M 0 0 := by
    intro k
    induction k with
    | zero => intro a0 x1 x2 M h; cases h
    | succ k ih => intro a0 x1 x2 M h; exact K_Ni_turnAll_L2 n E S _ a0 x1 x2 M M'  (fun a0 x1 x2 M h => ih a0 x1 x2 M h) h
  exact key n a0 x1 x2 M h
theorem K_Ni_turnAll (n : Nat) (E : zE) (S : zS) (a0 : Nat) (x1 : Int32) (M : zH) (M' : zH)  (h : F_Ni_turnAll n E S a0 x1 M = some M') : zG E Y_Ni_turnAll (none, S, M') 0 [(0, .ref a0), (1, .int x1)] [] S M 0 0 := by
  unfold F_Ni_turnAll at h
  refine zi_iconst 0 d_Ni_turnAll_0 rfl ?_
  refine zi_istore_n [(2, .int 0), (0, .ref a0), (1, .int x1)] d_Ni_turnAll_1 (by decide) rfl ?_
  refine zi_lo [(0, .ref a0), (1, .int x1), (2, .int 0)] [1, 2, 0] rfl ?_
  exact K_Ni_turnAll_b2 n E S a0 x1 0 M M'  h
theorem C_Ni_turnAll (n : Nat) (E : zE) (S : zS) (a0 : Nat) (x1 : Int32) (M : zH) (M' : zH) (h : F_Ni_turnAll n E S a0 x1 M = some M') : zC E Y_Ni_turnAll [.ref a0, .int x1] S M (none, S, M') :=
  zC.of (Or.inl (show plainName "NightColander$Night" = true by decide)) (Nat.le_of_ble_eq_true rfl) (trivial) (K_Ni_turnAll n E S a0 x1 M M' h)
theorem d_De_letHourPass_0 : decode (yB Y_De_letHourPass) 0 = .ok (.iconst 0, 1) := by decide +kernel
theorem d_De_letHourPass_1 : decode (yB Y_De_letHourPass) 1 = .ok (.istore_n 2, 1) := by decide +kernel
theorem d_De_letHourPass_2 : decode (yB Y_De_letHourPass) 2 = .ok (.iconst 0, 1) := by decide +kernel
theorem d_De_letHourPass_3 : decode (yB Y_De_letHourPass) 3 = .ok (.istore_n 3, 1) := by decide +kernel
theorem d_De_letHourPass_4 : decode (yB Y_De_letHourPass) 4 = .ok (.iload_n 3, 1) := by decide +kernel
theorem d_De_letHourPass_5 : decode (yB Y_De_letHourPass) 5 = .ok (.aload_n 1, 1) := by decide +kernel
theorem d_De_letHourPass_6 : decode (yB Y_De_letHourPass) 6 = .ok (.getfield 98, 3) := by decide +kernel
theorem d_De_letHourPass_9 : decode (yB Y_De_letHourPass) 9 = .ok (.if_icmp .ge 87, 3) := by decide +kernel
theorem d_De_letHourPass_12 : decode (yB Y_De_letHourPass) 12 = .ok (.aload_n 1, 1) := by decide +kernel
theorem d_De_letHourPass_13 : decode (yB Y_De_letHourPass) 13 = .ok (.getfield 102, 3) := by decide +kernel
theorem d_De_letHourPass_16 : decode (yB Y_De_letHourPass) 16 = .ok (.iload_n 3, 1) := by decide +kernel
theorem d_De_letHourPass_17 : decode (yB Y_De_letHourPass) 17 = .ok (.iaload, 1) := by decide +kernel
theorem d_De_letHourPass_18 : decode (yB Y_De_letHourPass) 18 = .ok (.aload_n 1, 1) := by decide +kernel
theorem d_De_letHourPass_19 : decode (yB Y_De_letHourPass) 19 = .ok (.getfield 21, 3) := by decide +kernel
theorem d_De_letHourPass_22 : decode (yB Y_De_letHourPass) 22 = .ok (.iload_n 3, 1) := by decide +kernel
theorem d_De_letHourPass_23 : decode (yB Y_De_letHourPass) 23 = .ok (.iaload, 1) := by decide +kernel
theorem d_De_letHourPass_24 : decode (yB Y_De_letHourPass) 24 = .ok (.isub, 1) := by decide +kernel
theorem d_De_letHourPass_25 : decode (yB Y_De_letHourPass) 25 = .ok (.istore 4, 2) := by decide +kernel
theorem d_De_letHourPass_27 : decode (yB Y_De_letHourPass) 27 = .ok (.iload 4, 2) := by decide +kernel
theorem d_De_letHourPass_29 : decode (yB Y_De_letHourPass) 29 = .ok (.aload_n 0, 1) := by decide +kernel
theorem d_De_letHourPass_30 : decode (yB Y_De_letHourPass) 30 = .ok (.getfield 9, 3) := by decide +kernel
theorem d_De_letHourPass_33 : decode (yB Y_De_letHourPass) 33 = .ok (.aload_n 1, 1) := by decide +kernel
theorem d_De_letHourPass_34 : decode (yB Y_De_letHourPass) 34 = .ok (.aload_n 1, 1) := by decide +kernel
theorem d_De_letHourPass_35 : decode (yB Y_De_letHourPass) 35 = .ok (.getfield 15, 3) := by decide +kernel
theorem d_De_letHourPass_38 : decode (yB Y_De_letHourPass) 38 = .ok (.iload_n 3, 1) := by decide +kernel
theorem d_De_letHourPass_39 : decode (yB Y_De_letHourPass) 39 = .ok (.iaload, 1) := by decide +kernel
theorem d_De_letHourPass_40 : decode (yB Y_De_letHourPass) 40 = .ok (.invokevirtual 105, 3) := by decide +kernel
theorem d_De_letHourPass_43 : decode (yB Y_De_letHourPass) 43 = .ok (.invokestatic 108, 3) := by decide +kernel
theorem d_De_letHourPass_46 : decode (yB Y_De_letHourPass) 46 = .ok (.istore 5, 2) := by decide +kernel
theorem d_De_letHourPass_48 : decode (yB Y_De_letHourPass) 48 = .ok (.aload_n 1, 1) := by decide +kernel
theorem d_De_letHourPass_49 : decode (yB Y_De_letHourPass) 49 = .ok (.getfield 21, 3) := by decide +kernel
theorem d_De_letHourPass_52 : decode (yB Y_De_letHourPass) 52 = .ok (.iload_n 3, 1) := by decide +kernel
theorem d_De_letHourPass_53 : decode (yB Y_De_letHourPass) 53 = .ok (.dup2, 1) := by decide +kernel
theorem d_De_letHourPass_54 : decode (yB Y_De_letHourPass) 54 = .ok (.iaload, 1) := by decide +kernel
theorem d_De_letHourPass_55 : decode (yB Y_De_letHourPass) 55 = .ok (.iload 5, 2) := by decide +kernel
theorem d_De_letHourPass_57 : decode (yB Y_De_letHourPass) 57 = .ok (.iadd, 1) := by decide +kernel
theorem d_De_letHourPass_58 : decode (yB Y_De_letHourPass) 58 = .ok (.iastore, 1) := by decide +kernel
theorem d_De_letHourPass_59 : decode (yB Y_De_letHourPass) 59 = .ok (.iload_n 2, 1) := by decide +kernel
theorem d_De_letHourPass_60 : decode (yB Y_De_letHourPass) 60 = .ok (.iload 5, 2) := by decide +kernel
theorem d_De_letHourPass_62 : decode (yB Y_De_letHourPass) 62 = .ok (.iadd, 1) := by decide +kernel
theorem d_De_letHourPass_63 : decode (yB Y_De_letHourPass) 63 = .ok (.istore_n 2, 1) := by decide +kernel
theorem d_De_letHourPass_64 : decode (yB Y_De_letHourPass) 64 = .ok (.aload_n 1, 1) := by decide +kernel
theorem d_De_letHourPass_65 : decode (yB Y_De_letHourPass) 65 = .ok (.getfield 21, 3) := by decide +kernel
theorem d_De_letHourPass_68 : decode (yB Y_De_letHourPass) 68 = .ok (.iload_n 3, 1) := by decide +kernel
theorem d_De_letHourPass_69 : decode (yB Y_De_letHourPass) 69 = .ok (.iconst 0, 1) := by decide +kernel
theorem d_De_letHourPass_70 : decode (yB Y_De_letHourPass) 70 = .ok (.aload_n 1, 1) := by decide +kernel
theorem d_De_letHourPass_71 : decode (yB Y_De_letHourPass) 71 = .ok (.getfield 21, 3) := by decide +kernel
theorem d_De_letHourPass_74 : decode (yB Y_De_letHourPass) 74 = .ok (.iload_n 3, 1) := by decide +kernel
theorem d_De_letHourPass_75 : decode (yB Y_De_letHourPass) 75 = .ok (.iaload, 1) := by decide +kernel
theorem d_De_letHourPass_76 : decode (yB Y_De_letHourPass) 76 = .ok (.aload_n 0, 1) := by decide +kernel
theorem d_De_letHourPass_77 : decode (yB Y_De_letHourPass) 77 = .ok (.getfield 9, 3) := by decide +kernel
theorem d_De_letHourPass_80 : decode (yB Y_De_letHourPass) 80 = .ok (.aload_n 1, 1) := by decide +kernel
theorem d_De_letHourPass_81 : decode (yB Y_De_letHourPass) 81 = .ok (.iload_n 3, 1) := by decide +kernel
theorem d_De_letHourPass_82 : decode (yB Y_De_letHourPass) 82 = .ok (.invokevirtual 114, 3) := by decide +kernel
theorem d_De_letHourPass_85 : decode (yB Y_De_letHourPass) 85 = .ok (.isub, 1) := by decide +kernel
theorem d_De_letHourPass_86 : decode (yB Y_De_letHourPass) 86 = .ok (.invokestatic 117, 3) := by decide +kernel
theorem d_De_letHourPass_89 : decode (yB Y_De_letHourPass) 89 = .ok (.iastore, 1) := by decide +kernel
theorem d_De_letHourPass_90 : decode (yB Y_De_letHourPass) 90 = .ok (.iinc 3 1, 3) := by decide +kernel
theorem d_De_letHourPass_93 : decode (yB Y_De_letHourPass) 93 = .ok (.goto (-89), 3) := by decide +kernel
theorem d_De_letHourPass_96 : decode (yB Y_De_letHourPass) 96 = .ok (.aload_n 1, 1) := by decide +kernel
theorem d_De_letHourPass_97 : decode (yB Y_De_letHourPass) 97 = .ok (.iconst 1, 1) := by decide +kernel
theorem d_De_letHourPass_98 : decode (yB Y_De_letHourPass) 98 = .ok (.invokevirtual 120, 3) := by decide +kernel
theorem d_De_letHourPass_101 : decode (yB Y_De_letHourPass) 101 = .ok (.iload_n 2, 1) := by decide +kernel
theorem d_De_letHourPass_102 : decode (yB Y_De_letHourPass) 102 = .ok (.ireturn, 1) := by decide +kernel
def F_De_letHourPass_L4 (n : Nat) (E : zE) (S : zS) (r4 : Nat × Nat × Int32 × Int32 × zH → Option (Int32 × zH)) (a0 : Nat) (a1 : Nat) (x2 : Int32) (x3 : Int32) (M : zH) : Option (Int32 × zH) :=
  (zgI S M a1 3 11).bind fun v_1 =>
  if v_1 ≤ x3 then
    (F_Ni_turnAll n E S a1 1 M).bind fun q_3 =>
    some (x2, q_3)
  else
    (zgR S a1 3 3).bind fun b_4 =>
    (zldI S M b_4 x3).bind fun v_5 =>
    (zgR S a1 3 4).bind fun b_6 =>
    (zldI S M b_6 x3).bind fun v_7 =>
    (zgR S a0 0 0).bind fun b_8 =>
    (zgR S a1 3 5).bind fun b_9 =>
    (zldI S M b_9 x3).bind fun v_10 =>
    (zck S b_8 1).bind fun u_11 =>
    (F_Ju_threadsOn n E S b_8 a1 v_10 M).bind fun q_12 =>
    (F_Jm_min n E S (v_5 - v_7) q_12.1 q_12.2).bind fun q_13 =>
    (zldI S q_13.2 b_6 x3).bind fun v_14 =>
    (zstI S q_13.2 b_6 x3 (v_14 + q_13.1)).bind fun m_15 =>
    (zldI S m_15 b_6 x3).bind fun v_16 =>
    (F_Ju_leakOf n E S b_8 a1 x3 m_15).bind fun q_17 =>
    (F_Jm_max n E S 0 (v_16 - q_17.1) q_17.2).bind fun q_18 =>
    (zstI S q_18.2 b_6 x3 q_18.1).bind fun m_19 =>
    r4 (a0, a1, x2 + q_13.1, x3 + 1, m_19)
def F_De_letHourPass_b4 (n : Nat) (E : zE) (S : zS) : Nat × Nat × Int32 × Int32 × zH → Option (Int32 × zH) := zfix (fun r4 s => F_De_letHourPass_L4 n E S r4 s.1 s.2.1 s.2.2.1 s.2.2.2.1 s.2.2.2.2) n
def F_De_letHourPass (n : Nat) (E : zE) (S : zS) (a0 : Nat) (a1 : Nat) (M : zH) : Option (Int32 × zH) :=
  F_De_letHourPass_b4 n E S (a0, a1, 0, 0, M)
theorem K_De_letHourPass_L4 (n : Nat) (E : zE) (S : zS) (r4 : Nat × Nat × Int32 × Int32 × zH → Option (Int32 × zH)) (a0 : Nat) (a1 : Nat) (x2 : Int32) (x3 : Int32) (M : zH) (r : Int32) (M' : zH) (hr4 : ∀ (a0 : Nat) (a1 : Nat) (x2 : Int32) (x3 : Int32) (M : zH), r4 (a0, a1, x2, x3, M) = some (r, M') → zG E Y_De_letHourPass (some (.int r), S, M') 4 [(0, .ref a0), (1, .ref a1), (2, .int x2), (3, .int x3)] [] S M 0 0) (h : F_De_letHourPass_L4 n E S r4 a0 a1 x2 x3 M = some (r, M')) : zG E Y_De_letHourPass (some (.int r), S, M') 4 [(0, .ref a0), (1, .ref a1), (2, .int x2), (3, .int x3)] [] S M 0 0 := by
  unfold F_De_letHourPass_L4 at h
  refine zi_iload_n 3 d_De_letHourPass_4 rfl ?_
  refine zi_aload_n 1 d_De_letHourPass_5 rfl ?_
  obtain ⟨v_1, ev_1, h⟩ := zbind h
  refine zo_getI 9 zkd_3 11 d_De_letHourPass_6 ev_1 rfl tw_89 rfl ?_
  refine zi_icmp_ge (tgt := 96) d_De_letHourPass_9 rfl (fun c_2 => ?_) (fun c_2 => ?_)
  · rw [if_pos c_2] at h
    refine zi_aload_n 1 d_De_letHourPass_96 rfl ?_
    refine zi_iconst 1 d_De_letHourPass_97 rfl ?_
    obtain ⟨q_3, eq_3, h⟩ := zbind h
    refine zo_virt (k' := 0) (n' := 0) 101 [.int 1] [] [] zkd_3 (zgI_s ev_1).1 (C_Ni_turnAll n E S a1 1 M q_3 eq_3) d_De_letHourPass_98 tw_927 tw_924 tw_925 tw_926 tw_2 dd_Ni_turnAll ⟨Nat.le_of_ble_eq_true rfl, Nat.le_of_ble_eq_true rfl, Nat.le_of_ble_eq_true rfl, Nat.le_of_ble_eq_true rfl⟩ (Nat.le_of_ble_eq_true rfl) rfl rfl rfl rfl ?_
    refine zi_iload_n 2 d_De_letHourPass_101 rfl ?_
    cases h
    exact zo_ret d_De_letHourPass_102 (Nat.le_of_ble_eq_true rfl) (Nat.le_of_ble_eq_true rfl) rfl
  · rw [if_neg c_2] at h
    refine zi_aload_n 1 d_De_letHourPass_12 rfl ?_
    obtain ⟨b_4, eb_4, h⟩ := zbind h
    refine zo_getR 16 zkd_3 3 d_De_letHourPass_13 eb_4 rfl tw_59 rfl ?_
    refine zi_iload_n 3 d_De_letHourPass_16 rfl ?_
    obtain ⟨v_5, ev_5, h⟩ := zbind h
    refine zo_iald 18 d_De_letHourPass_17 ev_5 rfl ?_
    refine zi_aload_n 1 d_De_letHourPass_18 rfl ?_
    obtain ⟨b_6, eb_6, h⟩ := zbind h
    refine zo_getR 22 zkd_3 4 d_De_letHourPass_19 eb_6 rfl tw_61 rfl ?_
    refine zi_iload_n 3 d_De_letHourPass_22 rfl ?_
    obtain ⟨v_7, ev_7, h⟩ := zbind h
    refine zo_iald 24 d_De_letHourPass_23 ev_7 rfl ?_
    refine zi_isub d_De_letHourPass_24 ?_
    refine zi_istore [(4, .int (v_5 - v_7)), (0, .ref a0), (1, .ref a1), (2, .int x2), (3, .int x3)] d_De_letHourPass_25 (by decide) rfl ?_
    refine zi_iload 0 d_De_letHourPass_27 rfl ?_
    refine zi_aload_n 1 d_De_letHourPass_29 rfl ?_
    obtain ⟨b_8, eb_8, h⟩ := zbind h
    refine zo_getR 33 zkd_0 0 d_De_letHourPass_30 eb_8 rfl tw_258 rfl ?_
    refine zi_aload_n 2 d_De_letHourPass_33 rfl ?_
    refine zi_aload_n 2 d_De_letHourPass_34 rfl ?_
    obtain ⟨b_9, eb_9, h⟩ := zbind h
    refine zo_getR 38 zkd_3 5 d_De_letHourPass_35 eb_9 rfl tw_68 rfl ?_
    refine zi_iload_n 4 d_De_letHourPass_38 rfl ?_
    obtain ⟨v_10, ev_10, h⟩ := zbind h
    refine zo_iald 40 d_De_letHourPass_39 ev_10 rfl ?_
    obtain ⟨u_11, eu_11, h⟩ := zbind h
    obtain ⟨q_12, eq_12, h⟩ := zbind h
    refine zo_virt (k' := 0) (n' := 0) 43 [.ref a1, .int v_10] [.int (v_5 - v_7)] [.int q_12.1, .int (v_5 - v_7)] zkd_1 (zck_s eu_11) (C_Ju_threadsOn n E S b_8 a1 v_10 M q_12.1 q_12.2 eq_12) d_De_letHourPass_40 tw_512 tw_920 tw_510 tw_511 tw_8 dd_Ju_threadsOn ⟨Nat.le_of_ble_eq_true rfl, Nat.le_of_ble_eq_true rfl, Nat.le_of_ble_eq_true rfl, Nat.le_of_ble_eq_true rfl⟩ (Nat.le_of_ble_eq_true rfl) rfl rfl rfl rfl ?_
    obtain ⟨q_13, eq_13, h⟩ := zbind h
    refine zo_stat (k' := 0) (n' := 0) 46 [.int (v_5 - v_7), .int q_12.1] [] [.int q_13.1] (C_Jm_min n E S (v_5 - v_7) q_12.1 q_12.2 q_13.1 q_13.2 eq_13) d_De_letHourPass_43 tw_437 tw_921 tw_436 tw_14 dd_Jm_min ⟨Nat.le_of_ble_eq_true rfl, Nat.le_of_ble_eq_true rfl, Nat.le_of_ble_eq_true rfl, Nat.le_of_ble_eq_true rfl⟩ (Nat.le_of_ble_eq_true rfl) rfl rfl rfl rfl ?_
    refine zi_istore [(5, .int q_13.1), (4, .int (v_5 - v_7)), (0, .ref a0), (1, .ref a1), (2, .int x2), (3, .int x3)] d_De_letHourPass_46 (by decide) rfl ?_
    refine zi_aload_n 3 d_De_letHourPass_48 rfl ?_
    refine zo_getR 52 zkd_3 4 d_De_letHourPass_49 eb_6 rfl tw_61 rfl ?_
    refine zi_iload_n 5 d_De_letHourPass_52 rfl ?_
    refine zi_dup2 d_De_letHourPass_53 rfl rfl ?_
    obtain ⟨v_14, ev_14, h⟩ := zbind h
    refine zo_iald 55 d_De_letHourPass_54 ev_14 rfl ?_
    refine zi_iload 0 d_De_letHourPass_55 rfl ?_
    refine zi_iadd d_De_letHourPass_57 ?_
    obtain ⟨m_15, em_15, h⟩ := zbind h
    refine zo_iast 59 d_De_letHourPass_58 em_15 rfl ?_
    refine zi_iload_n 4 d_De_letHourPass_59 rfl ?_
    refine zi_iload 0 d_De_letHourPass_60 rfl ?_
    refine zi_iadd d_De_letHourPass_62 ?_
    refine zi_istore_n [(2, .int (x2 + q_13.1)), (5, .int q_13.1), (4, .int (v_5 - v_7)), (0, .ref a0), (1, .ref a1), (3, .int x3)] d_De_letHourPass_63 (by decide) rfl ?_
    refine zi_aload_n 4 d_De_letHourPass_64 rfl ?_
    refine zo_getR 68 zkd_3 4 d_De_letHourPass_65 eb_6 rfl tw_61 rfl ?_
    refine zi_iload_n 5 d_De_letHourPass_68 rfl ?_
    refine zi_iconst 0 d_De_letHourPass_69 rfl ?_
    refine zi_aload_n 4 d_De_letHourPass_70 rfl ?_
    refine zo_getR 74 zkd_3 4 d_De_letHourPass_71 eb_6 rfl tw_61 rfl ?_
    refine zi_iload_n 5 d_De_letHourPass_74 rfl ?_
    obtain ⟨v_16, ev_16, h⟩ := zbind h
    refine zo_iald 76 d_De_letHourPass_75 ev_16 rfl ?_
    refine zi_aload_n 3 d_De_letHourPass_76 rfl ?_
    refine zo_getR 80 zkd_0 0 d_De_letHourPass_77 eb_8 rfl tw_258 rfl ?_
    refine zi_aload_n 4 d_De_letHourPass_80 rfl ?_
    refine zi_iload_n 5 d_De_letHourPass_81 rfl ?_
    obtain ⟨q_17, eq_17, h⟩ := zbind h
    refine zo_virt (k' := 0) (n' := 0) 85 [.ref a1, .int x3] [.int v_16, .int 0, .int x3, .ref b_6] [.int q_17.1, .int v_16, .int 0, .int x3, .ref b_6] zkd_1 (zck_s eu_11) (C_Ju_leakOf n E S b_8 a1 x3 m_15 q_17.1 q_17.2 eq_17) d_De_letHourPass_82 tw_484 tw_922 tw_482 tw_483 tw_8 dd_Ju_leakOf ⟨Nat.le_of_ble_eq_true rfl, Nat.le_of_ble_eq_true rfl, Nat.le_of_ble_eq_true rfl, Nat.le_of_ble_eq_true rfl⟩ (Nat.le_of_ble_eq_true rfl) rfl rfl rfl rfl ?_
    refine zi_isub d_De_letHourPass_85 ?_
    obtain ⟨q_18, eq_18, h⟩ := zbind h
    refine zo_stat (k' := 0) (n' := 0) 89 [.int 0, .int (v_16 - q_17.1)] [.int x3, .ref b_6] [.int q_18.1, .int x3, .ref b_6] (C_Jm_max n E S 0 (v_16 - q_17.1) q_17.2 q_18.1 q_18.2 eq_18) d_De_letHourPass_86 tw_440 tw_923 tw_439 tw_14 dd_Jm_max ⟨Nat.le_of_ble_eq_true rfl, Nat.le_of_ble_eq_true rfl, Nat.le_of_ble_eq_true rfl, Nat.le_of_ble_eq_true rfl⟩ (Nat.le_of_ble_eq_true rfl) rfl rfl rfl rfl ?_
    obtain ⟨m_19, em_19, h⟩ := zbind h
    refine zo_iast 90 d_De_letHourPass_89 em_19 rfl ?_
    refine zi_iinc 5 (x3 + 1) [(3, .int (x3 + 1)), (2, .int (x2 + q_13.1)), (5, .int q_13.1), (4, .int (v_5 - v_7)), (0, .ref a0), (1, .ref a1)] d_De_letHourPass_90 rfl rfl (by decide) rfl ?_
    refine zi_goto (tgt := 4) d_De_letHourPass_93 rfl ?_
    refine zi_lo [(0, .ref a0), (1, .ref a1), (2, .int (x2 + q_13.1)), (3, .int (x3 + 1))] [4, 5, 1, 0] rfl ?_
    exact hr4 a0 a1 (x2 + q_13.1) (x3 + 1) m_19 h
theorem K_De_letHourPass_b4 (n : Nat) (E : zE) (S : zS) (a0 : Nat) (a1 : Nat) (x2 : Int32) (x3 : Int32) (M : zH) (r : Int32) (M' : zH)  (h : F_De_letHourPass_b4 n E S (a0, a1, x2, x3, M) = some (r, M')) : zG E Y_De_letHourPass (some (.int r), S, M') 4 [(0, .ref a0), (1, .ref a1), (2, .int x2), (3, .int x3)] [] S M 0 0 := by
  have key : ∀ (k : Nat) (a0 : Nat) (a1 : Nat) (x2 : Int32) (x3 : Int32) (M : zH), zfix (fun r4 s => F_De_letHourPass_L4 n E S r4 s.1 s.2.1 s.2.2.1 s.2.2.2.1 s.2.2.2.2) k (a0, a1, x2, x3, M) = some (r, M') → zG E Y_De_letHourPass (some (.int r), S, M') 4 [(0, .ref a0), (1, .ref a1), (2, .int x2), (3, .int x3)] [] S M 0 0 := by
    intro k
    induction k with
    | zero => intro a0 a1 x2 x3 M h; cases h
    | succ k ih => intro a0 a1 x2 x3 M h; exact K_De_letHourPass_L4 n E S _ a0 a1 x2 x3 M r M'  (fun a0 a1 x2 x3 M h => ih a0 a1 x2 x3 M h) h
  exact key n a0 a1 x2 x3 M h
theorem K_De_letHourPass (n : Nat) (E : zE) (S : zS) (a0 : Nat) (a1 : Nat) (M : zH) (r : Int32) (M' : zH)  (h : F_De_letHourPass n E S a0 a1 M = some (r, M')) : zG E Y_De_letHourPass (some (.int r), S, M') 0 [(0, .ref a0), (1, .ref a1)] [] S M 0 0 := by
  unfold F_De_letHourPass at h
  refine zi_iconst 0 d_De_letHourPass_0 rfl ?_
  refine zi_istore_n [(2, .int 0), (0, .ref a0), (1, .ref a1)] d_De_letHourPass_1 (by decide) rfl ?_
  refine zi_iconst 0 d_De_letHourPass_2 rfl ?_
  refine zi_istore_n [(3, .int 0), (2, .int 0), (0, .ref a0), (1, .ref a1)] d_De_letHourPass_3 (by decide) rfl ?_
  refine zi_lo [(0, .ref a0), (1, .ref a1), (2, .int 0), (3, .int 0)] [2, 3, 1, 0] rfl ?_
  exact K_De_letHourPass_b4 n E S a0 a1 0 0 M r M'  h
theorem C_De_letHourPass (n : Nat) (E : zE) (S : zS) (a0 : Nat) (a1 : Nat) (M : zH) (r : Int32) (M' : zH) (h : F_De_letHourPass n E S a0 a1 M = some (r, M')) : zC E Y_De_letHourPass [.ref a0, .ref a1] S M (some (.int r), S, M') :=
  zC.of (Or.inl (show plainName "NightColander$Deeds" = true by decide)) (Nat.le_of_ble_eq_true rfl) (trivial) (K_De_letHourPass n E S a0 a1 M r M' h)
theorem d_De_move_0 : decode (yB Y_De_move) 0 = .ok (.aload_n 0, 1) := by decide +kernel
theorem d_De_move_1 : decode (yB Y_De_move) 1 = .ok (.getfield 15, 3) := by decide +kernel
theorem d_De_move_4 : decode (yB Y_De_move) 4 = .ok (.iload_n 1, 1) := by decide +kernel
theorem d_De_move_5 : decode (yB Y_De_move) 5 = .ok (.iaload, 1) := by decide +kernel
theorem d_De_move_6 : decode (yB Y_De_move) 6 = .ok (.istore_n 3, 1) := by decide +kernel
theorem d_De_move_7 : decode (yB Y_De_move) 7 = .ok (.aload_n 0, 1) := by decide +kernel
theorem d_De_move_8 : decode (yB Y_De_move) 8 = .ok (.getfield 15, 3) := by decide +kernel
theorem d_De_move_11 : decode (yB Y_De_move) 11 = .ok (.iload_n 1, 1) := by decide +kernel
theorem d_De_move_12 : decode (yB Y_De_move) 12 = .ok (.iload_n 2, 1) := by decide +kernel
theorem d_De_move_13 : decode (yB Y_De_move) 13 = .ok (.iastore, 1) := by decide +kernel
theorem d_De_move_14 : decode (yB Y_De_move) 14 = .ok (.iload_n 3, 1) := by decide +kernel
theorem d_De_move_15 : decode (yB Y_De_move) 15 = .ok (.ireturn, 1) := by decide +kernel
def F_De_move (n : Nat) (E : zE) (S : zS) (a0 : Nat) (x1 : Int32) (x2 : Int32) (M : zH) : Option (Int32 × zH) :=
  (zgR S a0 3 5).bind fun b_1 =>
  (zldI S M b_1 x1).bind fun v_2 =>
  (zstI S M b_1 x1 x2).bind fun m_3 =>
  some (v_2, m_3)
theorem K_De_move (n : Nat) (E : zE) (S : zS) (a0 : Nat) (x1 : Int32) (x2 : Int32) (M : zH) (r : Int32) (M' : zH)  (h : F_De_move n E S a0 x1 x2 M = some (r, M')) : zG E Y_De_move (some (.int r), S, M') 0 [(0, .ref a0), (1, .int x1), (2, .int x2)] [] S M 0 0 := by
  unfold F_De_move at h
  refine zi_aload_n 0 d_De_move_0 rfl ?_
  obtain ⟨b_1, eb_1, h⟩ := zbind h
  refine zo_getR 4 zkd_3 5 d_De_move_1 eb_1 rfl tw_68 rfl ?_
  refine zi_iload_n 1 d_De_move_4 rfl ?_
  obtain ⟨v_2, ev_2, h⟩ := zbind h
  refine zo_iald 6 d_De_move_5 ev_2 rfl ?_
  refine zi_istore_n [(3, .int v_2), (0, .ref a0), (1, .int x1), (2, .int x2)] d_De_move_6 (by decide) rfl ?_
  refine zi_aload_n 1 d_De_move_7 rfl ?_
  refine zo_getR 11 zkd_3 5 d_De_move_8 eb_1 rfl tw_68 rfl ?_
  refine zi_iload_n 2 d_De_move_11 rfl ?_
  refine zi_iload_n 3 d_De_move_12 rfl ?_
  obtain ⟨m_3, em_3, h⟩ := zbind h
  refine zo_iast 14 d_De_move_13 em_3 rfl ?_
  refine zi_iload_n 0 d_De_move_14 rfl ?_
  cases h
  exact zo_ret d_De_move_15 (Nat.le_of_ble_eq_true rfl) (Nat.le_of_ble_eq_true rfl) rfl
theorem C_De_move (n : Nat) (E : zE) (S : zS) (a0 : Nat) (x1 : Int32) (x2 : Int32) (M : zH) (r : Int32) (M' : zH) (h : F_De_move n E S a0 x1 x2 M = some (r, M')) : zC E Y_De_move [.ref a0, .int x1, .int x2] S M (some (.int r), S, M') :=
  zC.of (Or.inl (show plainName "NightColander$Deeds" = true by decide)) (Nat.le_of_ble_eq_true rfl) (trivial) (K_De_move n E S a0 x1 x2 M r M' h)
theorem d_De_refusalOf_0 : decode (yB Y_De_refusalOf) 0 = .ok (.iload_n 2, 1) := by decide +kernel
theorem d_De_refusalOf_1 : decode (yB Y_De_refusalOf) 1 = .ok (.tableswitch 141 0 2 #[27, 48, 89], 27) := by decide +kernel
theorem d_De_refusalOf_28 : decode (yB Y_De_refusalOf) 28 = .ok (.iload_n 3, 1) := by decide +kernel
theorem d_De_refusalOf_29 : decode (yB Y_De_refusalOf) 29 = .ok (.invokestatic 71, 3) := by decide +kernel
theorem d_De_refusalOf_32 : decode (yB Y_De_refusalOf) 32 = .ok (.ifCond .eq 15, 3) := by decide +kernel
theorem d_De_refusalOf_35 : decode (yB Y_De_refusalOf) 35 = .ok (.iload 4, 2) := by decide +kernel
theorem d_De_refusalOf_37 : decode (yB Y_De_refusalOf) 37 = .ok (.invokestatic 75, 3) := by decide +kernel
theorem d_De_refusalOf_40 : decode (yB Y_De_refusalOf) 40 = .ok (.ifCond .eq 7, 3) := by decide +kernel
theorem d_De_refusalOf_43 : decode (yB Y_De_refusalOf) 43 = .ok (.iconst 0, 1) := by decide +kernel
theorem d_De_refusalOf_44 : decode (yB Y_De_refusalOf) 44 = .ok (.goto 4, 3) := by decide +kernel
theorem d_De_refusalOf_47 : decode (yB Y_De_refusalOf) 47 = .ok (.iconst (-1), 1) := by decide +kernel
theorem d_De_refusalOf_48 : decode (yB Y_De_refusalOf) 48 = .ok (.ireturn, 1) := by decide +kernel
theorem d_De_refusalOf_49 : decode (yB Y_De_refusalOf) 49 = .ok (.iload_n 3, 1) := by decide +kernel
theorem d_De_refusalOf_50 : decode (yB Y_De_refusalOf) 50 = .ok (.invokestatic 71, 3) := by decide +kernel
theorem d_De_refusalOf_53 : decode (yB Y_De_refusalOf) 53 = .ok (.ifCond .eq 11, 3) := by decide +kernel
theorem d_De_refusalOf_56 : decode (yB Y_De_refusalOf) 56 = .ok (.iload 4, 2) := by decide +kernel
theorem d_De_refusalOf_58 : decode (yB Y_De_refusalOf) 58 = .ok (.invokestatic 75, 3) := by decide +kernel
theorem d_De_refusalOf_61 : decode (yB Y_De_refusalOf) 61 = .ok (.ifCond .ne 5, 3) := by decide +kernel
theorem d_De_refusalOf_64 : decode (yB Y_De_refusalOf) 64 = .ok (.iconst (-1), 1) := by decide +kernel
theorem d_De_refusalOf_65 : decode (yB Y_De_refusalOf) 65 = .ok (.ireturn, 1) := by decide +kernel
theorem d_De_refusalOf_66 : decode (yB Y_De_refusalOf) 66 = .ok (.aload_n 1, 1) := by decide +kernel
theorem d_De_refusalOf_67 : decode (yB Y_De_refusalOf) 67 = .ok (.getfield 62, 3) := by decide +kernel
theorem d_De_refusalOf_70 : decode (yB Y_De_refusalOf) 70 = .ok (.iload 4, 2) := by decide +kernel
theorem d_De_refusalOf_72 : decode (yB Y_De_refusalOf) 72 = .ok (.bipush 8, 2) := by decide +kernel
theorem d_De_refusalOf_74 : decode (yB Y_De_refusalOf) 74 = .ok (.imul, 1) := by decide +kernel
theorem d_De_refusalOf_75 : decode (yB Y_De_refusalOf) 75 = .ok (.iload_n 3, 1) := by decide +kernel
theorem d_De_refusalOf_76 : decode (yB Y_De_refusalOf) 76 = .ok (.iadd, 1) := by decide +kernel
theorem d_De_refusalOf_77 : decode (yB Y_De_refusalOf) 77 = .ok (.iaload, 1) := by decide +kernel
theorem d_De_refusalOf_78 : decode (yB Y_De_refusalOf) 78 = .ok (.bipush 9, 2) := by decide +kernel
theorem d_De_refusalOf_80 : decode (yB Y_De_refusalOf) 80 = .ok (.if_icmp .ge 7, 3) := by decide +kernel
theorem d_De_refusalOf_83 : decode (yB Y_De_refusalOf) 83 = .ok (.iconst 0, 1) := by decide +kernel
theorem d_De_refusalOf_84 : decode (yB Y_De_refusalOf) 84 = .ok (.goto 5, 3) := by decide +kernel
theorem d_De_refusalOf_87 : decode (yB Y_De_refusalOf) 87 = .ok (.bipush (-3), 2) := by decide +kernel
theorem d_De_refusalOf_89 : decode (yB Y_De_refusalOf) 89 = .ok (.ireturn, 1) := by decide +kernel
theorem d_De_refusalOf_90 : decode (yB Y_De_refusalOf) 90 = .ok (.iload 4, 2) := by decide +kernel
theorem d_De_refusalOf_92 : decode (yB Y_De_refusalOf) 92 = .ok (.invokestatic 78, 3) := by decide +kernel
theorem d_De_refusalOf_95 : decode (yB Y_De_refusalOf) 95 = .ok (.ifCond .ne 5, 3) := by decide +kernel
theorem d_De_refusalOf_98 : decode (yB Y_De_refusalOf) 98 = .ok (.iconst (-1), 1) := by decide +kernel
theorem d_De_refusalOf_99 : decode (yB Y_De_refusalOf) 99 = .ok (.ireturn, 1) := by decide +kernel
theorem d_De_refusalOf_100 : decode (yB Y_De_refusalOf) 100 = .ok (.aload_n 1, 1) := by decide +kernel
theorem d_De_refusalOf_101 : decode (yB Y_De_refusalOf) 101 = .ok (.iload_n 3, 1) := by decide +kernel
theorem d_De_refusalOf_102 : decode (yB Y_De_refusalOf) 102 = .ok (.invokevirtual 81, 3) := by decide +kernel
theorem d_De_refusalOf_105 : decode (yB Y_De_refusalOf) 105 = .ok (.ifCond .ne 6, 3) := by decide +kernel
theorem d_De_refusalOf_108 : decode (yB Y_De_refusalOf) 108 = .ok (.bipush (-2), 2) := by decide +kernel
theorem d_De_refusalOf_110 : decode (yB Y_De_refusalOf) 110 = .ok (.ireturn, 1) := by decide +kernel
theorem d_De_refusalOf_111 : decode (yB Y_De_refusalOf) 111 = .ok (.aload_n 1, 1) := by decide +kernel
theorem d_De_refusalOf_112 : decode (yB Y_De_refusalOf) 112 = .ok (.iload 4, 2) := by decide +kernel
theorem d_De_refusalOf_114 : decode (yB Y_De_refusalOf) 114 = .ok (.invokevirtual 84, 3) := by decide +kernel
theorem d_De_refusalOf_117 : decode (yB Y_De_refusalOf) 117 = .ok (.iconst (-1), 1) := by decide +kernel
theorem d_De_refusalOf_118 : decode (yB Y_De_refusalOf) 118 = .ok (.if_icmp .ne 17, 3) := by decide +kernel
theorem d_De_refusalOf_121 : decode (yB Y_De_refusalOf) 121 = .ok (.aload_n 0, 1) := by decide +kernel
theorem d_De_refusalOf_122 : decode (yB Y_De_refusalOf) 122 = .ok (.getfield 9, 3) := by decide +kernel
theorem d_De_refusalOf_125 : decode (yB Y_De_refusalOf) 125 = .ok (.aload_n 1, 1) := by decide +kernel
theorem d_De_refusalOf_126 : decode (yB Y_De_refusalOf) 126 = .ok (.iload_n 3, 1) := by decide +kernel
theorem d_De_refusalOf_127 : decode (yB Y_De_refusalOf) 127 = .ok (.iload 4, 2) := by decide +kernel
theorem d_De_refusalOf_129 : decode (yB Y_De_refusalOf) 129 = .ok (.invokevirtual 88, 3) := by decide +kernel
theorem d_De_refusalOf_132 : decode (yB Y_De_refusalOf) 132 = .ok (.ifCond .eq 8, 3) := by decide +kernel
theorem d_De_refusalOf_135 : decode (yB Y_De_refusalOf) 135 = .ok (.bipush (-3), 2) := by decide +kernel
theorem d_De_refusalOf_137 : decode (yB Y_De_refusalOf) 137 = .ok (.goto 4, 3) := by decide +kernel
theorem d_De_refusalOf_140 : decode (yB Y_De_refusalOf) 140 = .ok (.iconst 0, 1) := by decide +kernel
theorem d_De_refusalOf_141 : decode (yB Y_De_refusalOf) 141 = .ok (.ireturn, 1) := by decide +kernel
theorem d_De_refusalOf_142 : decode (yB Y_De_refusalOf) 142 = .ok (.aload_n 1, 1) := by decide +kernel
theorem d_De_refusalOf_143 : decode (yB Y_De_refusalOf) 143 = .ok (.getfield 49, 3) := by decide +kernel
theorem d_De_refusalOf_146 : decode (yB Y_De_refusalOf) 146 = .ok (.iconst 0, 1) := by decide +kernel
theorem d_De_refusalOf_147 : decode (yB Y_De_refusalOf) 147 = .ok (.iaload, 1) := by decide +kernel
theorem d_De_refusalOf_148 : decode (yB Y_De_refusalOf) 148 = .ok (.sipush 999, 3) := by decide +kernel
theorem d_De_refusalOf_151 : decode (yB Y_De_refusalOf) 151 = .ok (.if_icmp .ge 7, 3) := by decide +kernel
theorem d_De_refusalOf_154 : decode (yB Y_De_refusalOf) 154 = .ok (.iconst 0, 1) := by decide +kernel
theorem d_De_refusalOf_155 : decode (yB Y_De_refusalOf) 155 = .ok (.goto 5, 3) := by decide +kernel
theorem d_De_refusalOf_158 : decode (yB Y_De_refusalOf) 158 = .ok (.bipush (-3), 2) := by decide +kernel
theorem d_De_refusalOf_160 : decode (yB Y_De_refusalOf) 160 = .ok (.ireturn, 1) := by decide +kernel
def F_De_refusalOf_b135 (n : Nat) (E : zE) (S : zS)  (M : zH) : Option (Int32 × zH) :=
  some ((-3), M)
def F_De_refusalOf (n : Nat) (E : zE) (S : zS) (a0 : Nat) (a1 : Nat) (x2 : Int32) (x3 : Int32) (x4 : Int32) (M : zH) : Option (Int32 × zH) :=
  if x2 = 0 then
    (F_NC_isHole n E S x3 M).bind fun q_2 =>
    if q_2.1 = true then
      (F_NC_isRing n E S x4 q_2.2).bind fun q_4 =>
      if q_4.1 = true then
        some (0, q_4.2)
      else
        some ((-1), q_4.2)
    else
      some ((-1), q_2.2)
  else
  if x2 = 1 then
    (F_NC_isHole n E S x3 M).bind fun q_7 =>
    if q_7.1 = true then
      (F_NC_isRing n E S x4 q_7.2).bind fun q_9 =>
      if q_9.1 = true then
        (zgR S a1 3 0).bind fun b_11 =>
        (zldI S q_9.2 b_11 ((x4 * 8) + x3)).bind fun v_12 =>
        if 9 ≤ v_12 then
          some ((-3), q_9.2)
        else
          some (0, q_9.2)
      else
        some ((-1), q_9.2)
    else
      some ((-1), q_7.2)
  else
  if x2 = 2 then
    (F_NC_isField n E S x4 M).bind fun q_15 =>
    if q_15.1 = true then
      (zck S a1 3).bind fun u_17 =>
      (F_Ni_hasBucket n E S a1 x3 q_15.2).bind fun q_18 =>
      if q_18.1 = true then
        (F_Ni_bucketAt n E S a1 x4 q_18.2).bind fun q_20 =>
        if q_20.1 = (-1) then
          (zgR S a0 0 0).bind fun b_22 =>
          (zck S b_22 1).bind fun u_23 =>
          (F_Ju_isBarred n E S b_22 a1 x3 x4 q_20.2).bind fun q_24 =>
          if q_24.1 = true then
            F_De_refusalOf_b135 n E S  q_24.2
          else
            some (0, q_24.2)
        else
          F_De_refusalOf_b135 n E S  q_20.2
      else
        some ((-2), q_18.2)
    else
      some ((-1), q_15.2)
  else
    (zgR S a1 3 9).bind fun b_26 =>
    (zldI S M b_26 0).bind fun v_27 =>
    if 999 ≤ v_27 then
      some ((-3), M)
    else
      some (0, M)
theorem K_De_refusalOf_b135 (n : Nat) (E : zE) (S : zS)  (M : zH) (r : Int32) (M' : zH)  (h : F_De_refusalOf_b135 n E S  M = some (r, M')) : zG E Y_De_refusalOf (some (.int r), S, M') 135 [] [] S M 0 0 := by
  unfold F_De_refusalOf_b135 at h
  refine zi_bipush (-3) d_De_refusalOf_135 rfl ?_
  refine zi_goto (tgt := 141) d_De_refusalOf_137 rfl ?_
  cases h
  exact zo_ret d_De_refusalOf_141 (Nat.le_of_ble_eq_true rfl) (Nat.le_of_ble_eq_true rfl) rfl
theorem K_De_refusalOf (n : Nat) (E : zE) (S : zS) (a0 : Nat) (a1 : Nat) (x2 : Int32) (x3 : Int32) (x4 : Int32) (M : zH) (r : Int32) (M' : zH)  (h : F_De_refusalOf n E S a0 a1 x2 x3 x4 M = some (r, M')) : zG E Y_De_refusalOf (some (.int r), S, M') 0 [(0, .ref a0), (1, .ref a1), (2, .int x2), (3, .int x3), (4, .int x4)] [] S M 0 0 := by
  unfold F_De_refusalOf at h
  refine zi_iload_n 2 d_De_refusalOf_0 rfl ?_
  by_cases c_1 : x2 = 0
  · rw [if_pos c_1] at h
    refine zo_tab (tgt := 28) 0 d_De_refusalOf_1 c_1 (by decide) (by decide) rfl rfl ?_
    refine zi_iload_n 3 d_De_refusalOf_28 rfl ?_
    obtain ⟨q_2, eq_2, h⟩ := zbind h
    refine zo_statN (k' := 0) (n' := 0) 32 [.int x3] [] [.int (bI q_2.1)] (C_NC_isHole n E S x3 M q_2.1 q_2.2 eq_2) d_De_refusalOf_29 tw_402 (List.mem_of_getElem? (i := 9) rfl) tw_401 tw_1 dd_NC_isHole ⟨Nat.le_of_ble_eq_true rfl, Nat.le_of_ble_eq_true rfl, Nat.le_of_ble_eq_true rfl, Nat.le_of_ble_eq_true rfl⟩ (Nat.le_of_ble_eq_true rfl) rfl rfl rfl rfl ?_
    refine zo_ifeqB d_De_refusalOf_32 rfl 35 rfl (fun c_3 => ?_) (fun c_3 => ?_)
    · rw [if_neg c_3] at h
      refine zi_iconst (-1) d_De_refusalOf_47 rfl ?_
      cases h
      exact zo_ret d_De_refusalOf_48 (Nat.le_of_ble_eq_true rfl) (Nat.le_of_ble_eq_true rfl) rfl
    · rw [if_pos c_3] at h
      refine zi_iload 4 d_De_refusalOf_35 rfl ?_
      obtain ⟨q_4, eq_4, h⟩ := zbind h
      refine zo_statN (k' := 0) (n' := 0) 40 [.int x4] [] [.int (bI q_4.1)] (C_NC_isRing n E S x4 q_2.2 q_4.1 q_4.2 eq_4) d_De_refusalOf_37 tw_396 (List.mem_of_getElem? (i := 10) rfl) tw_395 tw_1 dd_NC_isRing ⟨Nat.le_of_ble_eq_true rfl, Nat.le_of_ble_eq_true rfl, Nat.le_of_ble_eq_true rfl, Nat.le_of_ble_eq_true rfl⟩ (Nat.le_of_ble_eq_true rfl) rfl rfl rfl rfl ?_
      refine zo_ifeqB d_De_refusalOf_40 rfl 43 rfl (fun c_5 => ?_) (fun c_5 => ?_)
      · rw [if_neg c_5] at h
        refine zi_iconst (-1) d_De_refusalOf_47 rfl ?_
        cases h
        exact zo_ret d_De_refusalOf_48 (Nat.le_of_ble_eq_true rfl) (Nat.le_of_ble_eq_true rfl) rfl
      · rw [if_pos c_5] at h
        refine zi_iconst 0 d_De_refusalOf_43 rfl ?_
        refine zi_goto (tgt := 48) d_De_refusalOf_44 rfl ?_
        cases h
        exact zo_ret d_De_refusalOf_48 (Nat.le_of_ble_eq_true rfl) (Nat.le_of_ble_eq_true rfl) rfl
  rw [if_neg c_1] at h
  by_cases c_6 : x2 = 1
  · rw [if_pos c_6] at h
    refine zo_tab (tgt := 49) 1 d_De_refusalOf_1 c_6 (by decide) (by decide) rfl rfl ?_
    refine zi_iload_n 3 d_De_refusalOf_49 rfl ?_
    obtain ⟨q_7, eq_7, h⟩ := zbind h
    refine zo_statN (k' := 0) (n' := 0) 53 [.int x3] [] [.int (bI q_7.1)] (C_NC_isHole n E S x3 M q_7.1 q_7.2 eq_7) d_De_refusalOf_50 tw_402 (List.mem_of_getElem? (i := 9) rfl) tw_401 tw_1 dd_NC_isHole ⟨Nat.le_of_ble_eq_true rfl, Nat.le_of_ble_eq_true rfl, Nat.le_of_ble_eq_true rfl, Nat.le_of_ble_eq_true rfl⟩ (Nat.le_of_ble_eq_true rfl) rfl rfl rfl rfl ?_
    refine zo_ifeqB d_De_refusalOf_53 rfl 56 rfl (fun c_8 => ?_) (fun c_8 => ?_)
    · rw [if_neg c_8] at h
      refine zi_iconst (-1) d_De_refusalOf_64 rfl ?_
      cases h
      exact zo_ret d_De_refusalOf_65 (Nat.le_of_ble_eq_true rfl) (Nat.le_of_ble_eq_true rfl) rfl
    · rw [if_pos c_8] at h
      refine zi_iload 4 d_De_refusalOf_56 rfl ?_
      obtain ⟨q_9, eq_9, h⟩ := zbind h
      refine zo_statN (k' := 0) (n' := 0) 61 [.int x4] [] [.int (bI q_9.1)] (C_NC_isRing n E S x4 q_7.2 q_9.1 q_9.2 eq_9) d_De_refusalOf_58 tw_396 (List.mem_of_getElem? (i := 10) rfl) tw_395 tw_1 dd_NC_isRing ⟨Nat.le_of_ble_eq_true rfl, Nat.le_of_ble_eq_true rfl, Nat.le_of_ble_eq_true rfl, Nat.le_of_ble_eq_true rfl⟩ (Nat.le_of_ble_eq_true rfl) rfl rfl rfl rfl ?_
      refine zo_ifneB d_De_refusalOf_61 rfl 64 rfl (fun c_10 => ?_) (fun c_10 => ?_)
      · rw [if_pos c_10] at h
        refine zi_aload_n 1 d_De_refusalOf_66 rfl ?_
        obtain ⟨b_11, eb_11, h⟩ := zbind h
        refine zo_getR 70 zkd_3 0 d_De_refusalOf_67 eb_11 rfl tw_44 rfl ?_
        refine zi_iload 4 d_De_refusalOf_70 rfl ?_
        refine zi_bipush 8 d_De_refusalOf_72 rfl ?_
        refine zi_imul d_De_refusalOf_74 ?_
        refine zi_iload_n 3 d_De_refusalOf_75 rfl ?_
        refine zi_iadd d_De_refusalOf_76 ?_
        obtain ⟨v_12, ev_12, h⟩ := zbind h
        refine zo_iald 78 d_De_refusalOf_77 ev_12 rfl ?_
        refine zi_bipush 9 d_De_refusalOf_78 rfl ?_
        refine zi_icmp_ge (tgt := 87) d_De_refusalOf_80 rfl (fun c_13 => ?_) (fun c_13 => ?_)
        · rw [if_pos c_13] at h
          refine zi_bipush (-3) d_De_refusalOf_87 rfl ?_
          cases h
          exact zo_ret d_De_refusalOf_89 (Nat.le_of_ble_eq_true rfl) (Nat.le_of_ble_eq_true rfl) rfl
        · rw [if_neg c_13] at h
          refine zi_iconst 0 d_De_refusalOf_83 rfl ?_
          refine zi_goto (tgt := 89) d_De_refusalOf_84 rfl ?_
          cases h
          exact zo_ret d_De_refusalOf_89 (Nat.le_of_ble_eq_true rfl) (Nat.le_of_ble_eq_true rfl) rfl
      · rw [if_neg c_10] at h
        refine zi_iconst (-1) d_De_refusalOf_64 rfl ?_
        cases h
        exact zo_ret d_De_refusalOf_65 (Nat.le_of_ble_eq_true rfl) (Nat.le_of_ble_eq_true rfl) rfl
  rw [if_neg c_6] at h
  by_cases c_14 : x2 = 2
  · rw [if_pos c_14] at h
    refine zo_tab (tgt := 90) 2 d_De_refusalOf_1 c_14 (by decide) (by decide) rfl rfl ?_
    refine zi_iload 4 d_De_refusalOf_90 rfl ?_
    obtain ⟨q_15, eq_15, h⟩ := zbind h
    refine zo_statN (k' := 0) (n' := 0) 95 [.int x4] [] [.int (bI q_15.1)] (C_NC_isField n E S x4 M q_15.1 q_15.2 eq_15) d_De_refusalOf_92 tw_463 (List.mem_of_getElem? (i := 11) rfl) tw_462 tw_1 dd_NC_isField ⟨Nat.le_of_ble_eq_true rfl, Nat.le_of_ble_eq_true rfl, Nat.le_of_ble_eq_true rfl, Nat.le_of_ble_eq_true rfl⟩ (Nat.le_of_ble_eq_true rfl) rfl rfl rfl rfl ?_
    refine zo_ifneB d_De_refusalOf_95 rfl 98 rfl (fun c_16 => ?_) (fun c_16 => ?_)
    · rw [if_pos c_16] at h
      refine zi_aload_n 1 d_De_refusalOf_100 rfl ?_
      refine zi_iload_n 3 d_De_refusalOf_101 rfl ?_
      obtain ⟨u_17, eu_17, h⟩ := zbind h
      obtain ⟨q_18, eq_18, h⟩ := zbind h
      refine zo_virt (k' := 0) (n' := 0) 105 [.int x3] [] [.int (bI q_18.1)] zkd_3 (zck_s eu_17) (C_Ni_hasBucket n E S a1 x3 q_15.2 q_18.1 q_18.2 eq_18) d_De_refusalOf_102 tw_479 tw_900 tw_477 tw_478 tw_2 dd_Ni_hasBucket ⟨Nat.le_of_ble_eq_true rfl, Nat.le_of_ble_eq_true rfl, Nat.le_of_ble_eq_true rfl, Nat.le_of_ble_eq_true rfl⟩ (Nat.le_of_ble_eq_true rfl) rfl rfl rfl rfl ?_
      refine zo_ifneB d_De_refusalOf_105 rfl 108 rfl (fun c_19 => ?_) (fun c_19 => ?_)
      · rw [if_pos c_19] at h
        refine zi_aload_n 1 d_De_refusalOf_111 rfl ?_
        refine zi_iload 4 d_De_refusalOf_112 rfl ?_
        obtain ⟨q_20, eq_20, h⟩ := zbind h
        refine zo_virt (k' := 0) (n' := 0) 117 [.int x4] [] [.int q_20.1] zkd_3 (zck_s eu_17) (C_Ni_bucketAt n E S a1 x4 q_18.2 q_20.1 q_20.2 eq_20) d_De_refusalOf_114 tw_467 tw_901 tw_465 tw_466 tw_2 dd_Ni_bucketAt ⟨Nat.le_of_ble_eq_true rfl, Nat.le_of_ble_eq_true rfl, Nat.le_of_ble_eq_true rfl, Nat.le_of_ble_eq_true rfl⟩ (Nat.le_of_ble_eq_true rfl) rfl rfl rfl rfl ?_
        refine zi_iconst (-1) d_De_refusalOf_117 rfl ?_
        refine zi_icmp_ne (tgt := 135) d_De_refusalOf_118 rfl (fun c_21 => ?_) (fun c_21 => ?_)
        · rw [if_neg c_21] at h
          refine zi_lo [] [] rfl ?_
          exact K_De_refusalOf_b135 n E S  q_20.2 r M'  h
        · rw [if_pos c_21] at h
          refine zi_aload_n 0 d_De_refusalOf_121 rfl ?_
          obtain ⟨b_22, eb_22, h⟩ := zbind h
          refine zo_getR 125 zkd_0 0 d_De_refusalOf_122 eb_22 rfl tw_258 rfl ?_
          refine zi_aload_n 1 d_De_refusalOf_125 rfl ?_
          refine zi_iload_n 3 d_De_refusalOf_126 rfl ?_
          refine zi_iload 4 d_De_refusalOf_127 rfl ?_
          obtain ⟨u_23, eu_23, h⟩ := zbind h
          obtain ⟨q_24, eq_24, h⟩ := zbind h
          refine zo_virt (k' := 0) (n' := 0) 132 [.ref a1, .int x3, .int x4] [] [.int (bI q_24.1)] zkd_1 (zck_s eu_23) (C_Ju_isBarred n E S b_22 a1 x3 x4 q_20.2 q_24.1 q_24.2 eq_24) d_De_refusalOf_129 tw_500 tw_902 tw_498 tw_499 tw_8 dd_Ju_isBarred ⟨Nat.le_of_ble_eq_true rfl, Nat.le_of_ble_eq_true rfl, Nat.le_of_ble_eq_true rfl, Nat.le_of_ble_eq_true rfl⟩ (Nat.le_of_ble_eq_true rfl) rfl rfl rfl rfl ?_
          refine zo_ifeqB d_De_refusalOf_132 rfl 135 rfl (fun c_25 => ?_) (fun c_25 => ?_)
          · rw [if_neg c_25] at h
            refine zi_iconst 0 d_De_refusalOf_140 rfl ?_
            cases h
            exact zo_ret d_De_refusalOf_141 (Nat.le_of_ble_eq_true rfl) (Nat.le_of_ble_eq_true rfl) rfl
          · rw [if_pos c_25] at h
            refine zi_lo [] [] rfl ?_
            exact K_De_refusalOf_b135 n E S  q_24.2 r M'  h
      · rw [if_neg c_19] at h
        refine zi_bipush (-2) d_De_refusalOf_108 rfl ?_
        cases h
        exact zo_ret d_De_refusalOf_110 (Nat.le_of_ble_eq_true rfl) (Nat.le_of_ble_eq_true rfl) rfl
    · rw [if_neg c_16] at h
      refine zi_iconst (-1) d_De_refusalOf_98 rfl ?_
      cases h
      exact zo_ret d_De_refusalOf_99 (Nat.le_of_ble_eq_true rfl) (Nat.le_of_ble_eq_true rfl) rfl
  rw [if_neg c_14] at h
  refine zo_tabP (tgt := 142) 0 3 d_De_refusalOf_1 rfl rfl (fun j hj => by match j, hj with | 0, _ => exact c_1  | 1, _ => exact c_6  | 2, _ => exact c_14 | j + 3, hj => exact absurd hj (by omega)) rfl ?_
  refine zi_aload_n 1 d_De_refusalOf_142 rfl ?_
  obtain ⟨b_26, eb_26, h⟩ := zbind h
  refine zo_getR 146 zkd_3 9 d_De_refusalOf_143 eb_26 rfl tw_83 rfl ?_
  refine zi_iconst 0 d_De_refusalOf_146 rfl ?_
  obtain ⟨v_27, ev_27, h⟩ := zbind h
  refine zo_iald 148 d_De_refusalOf_147 ev_27 rfl ?_
  refine zi_sipush 999 d_De_refusalOf_148 rfl ?_
  refine zi_icmp_ge (tgt := 158) d_De_refusalOf_151 rfl (fun c_28 => ?_) (fun c_28 => ?_)
  · rw [if_pos c_28] at h
    refine zi_bipush (-3) d_De_refusalOf_158 rfl ?_
    cases h
    exact zo_ret d_De_refusalOf_160 (Nat.le_of_ble_eq_true rfl) (Nat.le_of_ble_eq_true rfl) rfl
  · rw [if_neg c_28] at h
    refine zi_iconst 0 d_De_refusalOf_154 rfl ?_
    refine zi_goto (tgt := 160) d_De_refusalOf_155 rfl ?_
    cases h
    exact zo_ret d_De_refusalOf_160 (Nat.le_of_ble_eq_true rfl) (Nat.le_of_ble_eq_true rfl) rfl
theorem C_De_refusalOf (n : Nat) (E : zE) (S : zS) (a0 : Nat) (a1 : Nat) (x2 : Int32) (x3 : Int32) (x4 : Int32) (M : zH) (r : Int32) (M' : zH) (h : F_De_refusalOf n E S a0 a1 x2 x3 x4 M = some (r, M')) : zC E Y_De_refusalOf [.ref a0, .ref a1, .int x2, .int x3, .int x4] S M (some (.int r), S, M') :=
  zC.of (Or.inl (show plainName "NightColander$Deeds" = true by decide)) (Nat.le_of_ble_eq_true rfl) (trivial) (K_De_refusalOf n E S a0 a1 x2 x3 x4 M r M' h)
theorem d_De_widen_0 : decode (yB Y_De_widen) 0 = .ok (.aload_n 0, 1) := by decide +kernel
theorem d_De_widen_1 : decode (yB Y_De_widen) 1 = .ok (.getfield 62, 3) := by decide +kernel
theorem d_De_widen_4 : decode (yB Y_De_widen) 4 = .ok (.iload_n 1, 1) := by decide +kernel
theorem d_De_widen_5 : decode (yB Y_De_widen) 5 = .ok (.dup2, 1) := by decide +kernel
theorem d_De_widen_6 : decode (yB Y_De_widen) 6 = .ok (.iaload, 1) := by decide +kernel
theorem d_De_widen_7 : decode (yB Y_De_widen) 7 = .ok (.iconst 1, 1) := by decide +kernel
theorem d_De_widen_8 : decode (yB Y_De_widen) 8 = .ok (.iadd, 1) := by decide +kernel
theorem d_De_widen_9 : decode (yB Y_De_widen) 9 = .ok (.iastore, 1) := by decide +kernel
theorem d_De_widen_10 : decode (yB Y_De_widen) 10 = .ok (.aload_n 0, 1) := by decide +kernel
theorem d_De_widen_11 : decode (yB Y_De_widen) 11 = .ok (.getfield 62, 3) := by decide +kernel
theorem d_De_widen_14 : decode (yB Y_De_widen) 14 = .ok (.iload_n 1, 1) := by decide +kernel
theorem d_De_widen_15 : decode (yB Y_De_widen) 15 = .ok (.iaload, 1) := by decide +kernel
theorem d_De_widen_16 : decode (yB Y_De_widen) 16 = .ok (.ireturn, 1) := by decide +kernel
def F_De_widen (n : Nat) (E : zE) (S : zS) (a0 : Nat) (x1 : Int32) (M : zH) : Option (Int32 × zH) :=
  (zgR S a0 3 0).bind fun b_1 =>
  (zldI S M b_1 x1).bind fun v_2 =>
  (zstI S M b_1 x1 (v_2 + 1)).bind fun m_3 =>
  (zldI S m_3 b_1 x1).bind fun v_4 =>
  some (v_4, m_3)
theorem K_De_widen (n : Nat) (E : zE) (S : zS) (a0 : Nat) (x1 : Int32) (M : zH) (r : Int32) (M' : zH)  (h : F_De_widen n E S a0 x1 M = some (r, M')) : zG E Y_De_widen (some (.int r), S, M') 0 [(0, .ref a0), (1, .int x1)] [] S M 0 0 := by
  unfold F_De_widen at h
  refine zi_aload_n 0 d_De_widen_0 rfl ?_
  obtain ⟨b_1, eb_1, h⟩ := zbind h
  refine zo_getR 4 zkd_3 0 d_De_widen_1 eb_1 rfl tw_44 rfl ?_
  refine zi_iload_n 1 d_De_widen_4 rfl ?_
  refine zi_dup2 d_De_widen_5 rfl rfl ?_
  obtain ⟨v_2, ev_2, h⟩ := zbind h
  refine zo_iald 7 d_De_widen_6 ev_2 rfl ?_
  refine zi_iconst 1 d_De_widen_7 rfl ?_
  refine zi_iadd d_De_widen_8 ?_
  obtain ⟨m_3, em_3, h⟩ := zbind h
  refine zo_iast 10 d_De_widen_9 em_3 rfl ?_
  refine zi_aload_n 0 d_De_widen_10 rfl ?_
  refine zo_getR 14 zkd_3 0 d_De_widen_11 eb_1 rfl tw_44 rfl ?_
  refine zi_iload_n 1 d_De_widen_14 rfl ?_
  obtain ⟨v_4, ev_4, h⟩ := zbind h
  refine zo_iald 16 d_De_widen_15 ev_4 rfl ?_
  cases h
  exact zo_ret d_De_widen_16 (Nat.le_of_ble_eq_true rfl) (Nat.le_of_ble_eq_true rfl) rfl
theorem C_De_widen (n : Nat) (E : zE) (S : zS) (a0 : Nat) (x1 : Int32) (M : zH) (r : Int32) (M' : zH) (h : F_De_widen n E S a0 x1 M = some (r, M')) : zC E Y_De_widen [.ref a0, .int x1] S M (some (.int r), S, M') :=
  zC.of (Or.inl (show plainName "NightColander$Deeds" = true by decide)) (Nat.le_of_ble_eq_true rfl) (trivial) (K_De_widen n E S a0 x1 M r M' h)
