/-! METHODS (printed by gen/build.py): Pa_longestDrought NC_drought NC_luck NC_together NC_settled Ja_fillJ Pa_chanceOfFew NC_few Pa_worthBy NC_worth De_nextDraw De_runYears -/
theorem d_Pa_longestDrought_0 : decode (yB Y_Pa_longestDrought) 0 = .ok (.aload_n 0, 1) := by decide +kernel
theorem d_Pa_longestDrought_1 : decode (yB Y_Pa_longestDrought) 1 = .ok (.getfield 12, 3) := by decide +kernel
theorem d_Pa_longestDrought_4 : decode (yB Y_Pa_longestDrought) 4 = .ok (.aload_n 1, 1) := by decide +kernel
theorem d_Pa_longestDrought_5 : decode (yB Y_Pa_longestDrought) 5 = .ok (.invokevirtual 53, 3) := by decide +kernel
theorem d_Pa_longestDrought_8 : decode (yB Y_Pa_longestDrought) 8 = .ok (.iconst 0, 1) := by decide +kernel
theorem d_Pa_longestDrought_9 : decode (yB Y_Pa_longestDrought) 9 = .ok (.istore_n 3, 1) := by decide +kernel
theorem d_Pa_longestDrought_10 : decode (yB Y_Pa_longestDrought) 10 = .ok (.iconst 0, 1) := by decide +kernel
theorem d_Pa_longestDrought_11 : decode (yB Y_Pa_longestDrought) 11 = .ok (.istore 4, 2) := by decide +kernel
theorem d_Pa_longestDrought_13 : decode (yB Y_Pa_longestDrought) 13 = .ok (.iconst 0, 1) := by decide +kernel
theorem d_Pa_longestDrought_14 : decode (yB Y_Pa_longestDrought) 14 = .ok (.istore 5, 2) := by decide +kernel
theorem d_Pa_longestDrought_16 : decode (yB Y_Pa_longestDrought) 16 = .ok (.iload 5, 2) := by decide +kernel
theorem d_Pa_longestDrought_18 : decode (yB Y_Pa_longestDrought) 18 = .ok (.bipush 60, 2) := by decide +kernel
theorem d_Pa_longestDrought_20 : decode (yB Y_Pa_longestDrought) 20 = .ok (.if_icmp .ge 49, 3) := by decide +kernel
theorem d_Pa_longestDrought_23 : decode (yB Y_Pa_longestDrought) 23 = .ok (.aload_n 0, 1) := by decide +kernel
theorem d_Pa_longestDrought_24 : decode (yB Y_Pa_longestDrought) 24 = .ok (.getfield 45, 3) := by decide +kernel
theorem d_Pa_longestDrought_27 : decode (yB Y_Pa_longestDrought) 27 = .ok (.aload_n 0, 1) := by decide +kernel
theorem d_Pa_longestDrought_28 : decode (yB Y_Pa_longestDrought) 28 = .ok (.getfield 12, 3) := by decide +kernel
theorem d_Pa_longestDrought_31 : decode (yB Y_Pa_longestDrought) 31 = .ok (.iload_n 2, 1) := by decide +kernel
theorem d_Pa_longestDrought_32 : decode (yB Y_Pa_longestDrought) 32 = .ok (.invokevirtual 57, 3) := by decide +kernel
theorem d_Pa_longestDrought_35 : decode (yB Y_Pa_longestDrought) 35 = .ok (.ifCond .ne 10, 3) := by decide +kernel
theorem d_Pa_longestDrought_38 : decode (yB Y_Pa_longestDrought) 38 = .ok (.iload 4, 2) := by decide +kernel
theorem d_Pa_longestDrought_40 : decode (yB Y_Pa_longestDrought) 40 = .ok (.iconst 1, 1) := by decide +kernel
theorem d_Pa_longestDrought_41 : decode (yB Y_Pa_longestDrought) 41 = .ok (.iadd, 1) := by decide +kernel
theorem d_Pa_longestDrought_42 : decode (yB Y_Pa_longestDrought) 42 = .ok (.goto 4, 3) := by decide +kernel
theorem d_Pa_longestDrought_45 : decode (yB Y_Pa_longestDrought) 45 = .ok (.iconst 0, 1) := by decide +kernel
theorem d_Pa_longestDrought_46 : decode (yB Y_Pa_longestDrought) 46 = .ok (.istore 4, 2) := by decide +kernel
theorem d_Pa_longestDrought_48 : decode (yB Y_Pa_longestDrought) 48 = .ok (.iload_n 3, 1) := by decide +kernel
theorem d_Pa_longestDrought_49 : decode (yB Y_Pa_longestDrought) 49 = .ok (.iload 4, 2) := by decide +kernel
theorem d_Pa_longestDrought_51 : decode (yB Y_Pa_longestDrought) 51 = .ok (.invokestatic 67, 3) := by decide +kernel
theorem d_Pa_longestDrought_54 : decode (yB Y_Pa_longestDrought) 54 = .ok (.istore_n 3, 1) := by decide +kernel
theorem d_Pa_longestDrought_55 : decode (yB Y_Pa_longestDrought) 55 = .ok (.aload_n 0, 1) := by decide +kernel
theorem d_Pa_longestDrought_56 : decode (yB Y_Pa_longestDrought) 56 = .ok (.getfield 12, 3) := by decide +kernel
theorem d_Pa_longestDrought_59 : decode (yB Y_Pa_longestDrought) 59 = .ok (.iconst 1, 1) := by decide +kernel
theorem d_Pa_longestDrought_60 : decode (yB Y_Pa_longestDrought) 60 = .ok (.invokevirtual 63, 3) := by decide +kernel
theorem d_Pa_longestDrought_63 : decode (yB Y_Pa_longestDrought) 63 = .ok (.iinc 5 1, 3) := by decide +kernel
theorem d_Pa_longestDrought_66 : decode (yB Y_Pa_longestDrought) 66 = .ok (.goto (-50), 3) := by decide +kernel
theorem d_Pa_longestDrought_69 : decode (yB Y_Pa_longestDrought) 69 = .ok (.iload_n 3, 1) := by decide +kernel
theorem d_Pa_longestDrought_70 : decode (yB Y_Pa_longestDrought) 70 = .ok (.ireturn, 1) := by decide +kernel
def F_Pa_longestDrought_b46 (n : Nat) (E : zE) (S : zS) (r16 : Nat × Int32 × Int32 × Int32 × Int32 × zH → Option (Int32 × zH)) (a0 : Nat) (x2 : Int32) (x3 : Int32) (x5 : Int32) (s0 : Int32) (M : zH) : Option (Int32 × zH) :=
  (F_Jm_max n E S x3 s0 M).bind fun q_1 =>
  (zgR S a0 4 1).bind fun b_2 =>
  (zck S b_2 3).bind fun u_3 =>
  (F_Ni_turnAll n E S b_2 1 q_1.2).bind fun q_4 =>
  r16 (a0, x2, q_1.1, s0, x5 + 1, q_4)
def F_Pa_longestDrought_L16 (n : Nat) (E : zE) (S : zS) (r16 : Nat × Int32 × Int32 × Int32 × Int32 × zH → Option (Int32 × zH)) (a0 : Nat) (x2 : Int32) (x3 : Int32) (x4 : Int32) (x5 : Int32) (M : zH) : Option (Int32 × zH) :=
  if 60 ≤ x5 then
    some (x3, M)
  else
    (zgR S a0 4 0).bind fun b_6 =>
    (zgR S a0 4 1).bind fun b_7 =>
    (zck S b_6 1).bind fun u_8 =>
    (F_Ju_threadsOn n E S b_6 b_7 x2 M).bind fun q_9 =>
    if q_9.1 = 0 then
      F_Pa_longestDrought_b46 n E S r16 a0 x2 x3 x5 (x4 + 1) q_9.2
    else
      F_Pa_longestDrought_b46 n E S r16 a0 x2 x3 x5 0 q_9.2
def F_Pa_longestDrought_b16 (n : Nat) (E : zE) (S : zS) : Nat × Int32 × Int32 × Int32 × Int32 × zH → Option (Int32 × zH) := zfix (fun r16 s => F_Pa_longestDrought_L16 n E S r16 s.1 s.2.1 s.2.2.1 s.2.2.2.1 s.2.2.2.2.1 s.2.2.2.2.2) n
def F_Pa_longestDrought (n : Nat) (E : zE) (S : zS) (a0 : Nat) (a1 : Nat) (x2 : Int32) (M : zH) : Option (Int32 × zH) :=
  (zgR S a0 4 1).bind fun b_11 =>
  (zck S b_11 3).bind fun u_12 =>
  (F_Ni_copyFrom n E S b_11 a1 M).bind fun q_13 =>
  F_Pa_longestDrought_b16 n E S (a0, x2, 0, 0, 0, q_13)
theorem K_Pa_longestDrought_b46 (n : Nat) (E : zE) (S : zS) (r16 : Nat × Int32 × Int32 × Int32 × Int32 × zH → Option (Int32 × zH)) (a0 : Nat) (x2 : Int32) (x3 : Int32) (x5 : Int32) (s0 : Int32) (M : zH) (r : Int32) (M' : zH) (hr16 : ∀ (a0 : Nat) (x2 : Int32) (x3 : Int32) (x4 : Int32) (x5 : Int32) (M : zH), r16 (a0, x2, x3, x4, x5, M) = some (r, M') → zG E Y_Pa_longestDrought (some (.int r), S, M') 16 [(0, .ref a0), (2, .int x2), (3, .int x3), (4, .int x4), (5, .int x5)] [] S M 0 0) (h : F_Pa_longestDrought_b46 n E S r16 a0 x2 x3 x5 s0 M = some (r, M')) : zG E Y_Pa_longestDrought (some (.int r), S, M') 46 [(0, .ref a0), (2, .int x2), (3, .int x3), (5, .int x5)] [.int s0] S M 0 0 := by
  unfold F_Pa_longestDrought_b46 at h
  refine zi_istore [(4, .int s0), (0, .ref a0), (2, .int x2), (3, .int x3), (5, .int x5)] d_Pa_longestDrought_46 (by decide) rfl ?_
  refine zi_iload_n 3 d_Pa_longestDrought_48 rfl ?_
  refine zi_iload 0 d_Pa_longestDrought_49 rfl ?_
  obtain ⟨q_1, eq_1, h⟩ := zbind h
  refine zo_stat (k' := 0) (n' := 0) 54 [.int x3, .int s0] [] [.int q_1.1] (C_Jm_max n E S x3 s0 M q_1.1 q_1.2 eq_1) d_Pa_longestDrought_51 tw_436 tw_1006 tw_435 tw_14 dd_Jm_max ⟨Nat.le_of_ble_eq_true rfl, Nat.le_of_ble_eq_true rfl, Nat.le_of_ble_eq_true rfl, Nat.le_of_ble_eq_true rfl⟩ (Nat.le_of_ble_eq_true rfl) rfl rfl rfl rfl ?_
  refine zi_istore_n [(3, .int q_1.1), (4, .int s0), (0, .ref a0), (2, .int x2), (5, .int x5)] d_Pa_longestDrought_54 (by decide) rfl ?_
  refine zi_aload_n 2 d_Pa_longestDrought_55 rfl ?_
  obtain ⟨b_2, eb_2, h⟩ := zbind h
  refine zo_getR 59 zkd_4 1 d_Pa_longestDrought_56 eb_2 rfl tw_299 rfl ?_
  refine zi_iconst 1 d_Pa_longestDrought_59 rfl ?_
  obtain ⟨u_3, eu_3, h⟩ := zbind h
  obtain ⟨q_4, eq_4, h⟩ := zbind h
  refine zo_virt (k' := 0) (n' := 0) 63 [.int 1] [] [] zkd_3 (zck_s eu_3) (C_Ni_turnAll n E S b_2 1 q_1.2 q_4 eq_4) d_Pa_longestDrought_60 tw_929 tw_986 tw_927 tw_928 tw_2 dd_Ni_turnAll ⟨Nat.le_of_ble_eq_true rfl, Nat.le_of_ble_eq_true rfl, Nat.le_of_ble_eq_true rfl, Nat.le_of_ble_eq_true rfl⟩ (Nat.le_of_ble_eq_true rfl) rfl rfl rfl rfl ?_
  refine zi_iinc 4 (x5 + 1) [(5, .int (x5 + 1)), (3, .int q_1.1), (4, .int s0), (0, .ref a0), (2, .int x2)] d_Pa_longestDrought_63 rfl rfl (by decide) rfl ?_
  refine zi_goto (tgt := 16) d_Pa_longestDrought_66 rfl ?_
  refine zi_lo [(0, .ref a0), (2, .int x2), (3, .int q_1.1), (4, .int s0), (5, .int (x5 + 1))] [3, 4, 1, 2, 0] rfl ?_
  exact hr16 a0 x2 q_1.1 s0 (x5 + 1) q_4 h
theorem K_Pa_longestDrought_L16 (n : Nat) (E : zE) (S : zS) (r16 : Nat × Int32 × Int32 × Int32 × Int32 × zH → Option (Int32 × zH)) (a0 : Nat) (x2 : Int32) (x3 : Int32) (x4 : Int32) (x5 : Int32) (M : zH) (r : Int32) (M' : zH) (hr16 : ∀ (a0 : Nat) (x2 : Int32) (x3 : Int32) (x4 : Int32) (x5 : Int32) (M : zH), r16 (a0, x2, x3, x4, x5, M) = some (r, M') → zG E Y_Pa_longestDrought (some (.int r), S, M') 16 [(0, .ref a0), (2, .int x2), (3, .int x3), (4, .int x4), (5, .int x5)] [] S M 0 0) (h : F_Pa_longestDrought_L16 n E S r16 a0 x2 x3 x4 x5 M = some (r, M')) : zG E Y_Pa_longestDrought (some (.int r), S, M') 16 [(0, .ref a0), (2, .int x2), (3, .int x3), (4, .int x4), (5, .int x5)] [] S M 0 0 := by
  unfold F_Pa_longestDrought_L16 at h
  refine zi_iload 4 d_Pa_longestDrought_16 rfl ?_
  refine zi_bipush 60 d_Pa_longestDrought_18 rfl ?_
  refine zi_icmp_ge (tgt := 69) d_Pa_longestDrought_20 rfl (fun c_5 => ?_) (fun c_5 => ?_)
  · rw [if_pos c_5] at h
    refine zi_iload_n 2 d_Pa_longestDrought_69 rfl ?_
    cases h
    exact zo_ret d_Pa_longestDrought_70 (Nat.le_of_ble_eq_true rfl) (Nat.le_of_ble_eq_true rfl) rfl
  · rw [if_neg c_5] at h
    refine zi_aload_n 0 d_Pa_longestDrought_23 rfl ?_
    obtain ⟨b_6, eb_6, h⟩ := zbind h
    refine zo_getR 27 zkd_4 0 d_Pa_longestDrought_24 eb_6 rfl tw_298 rfl ?_
    refine zi_aload_n 0 d_Pa_longestDrought_27 rfl ?_
    obtain ⟨b_7, eb_7, h⟩ := zbind h
    refine zo_getR 31 zkd_4 1 d_Pa_longestDrought_28 eb_7 rfl tw_299 rfl ?_
    refine zi_iload_n 1 d_Pa_longestDrought_31 rfl ?_
    obtain ⟨u_8, eu_8, h⟩ := zbind h
    obtain ⟨q_9, eq_9, h⟩ := zbind h
    refine zo_virt (k' := 0) (n' := 0) 35 [.ref b_7, .int x2] [] [.int q_9.1] zkd_1 (zck_s eu_8) (C_Ju_threadsOn n E S b_6 b_7 x2 M q_9.1 q_9.2 eq_9) d_Pa_longestDrought_32 tw_514 tw_985 tw_512 tw_513 tw_8 dd_Ju_threadsOn ⟨Nat.le_of_ble_eq_true rfl, Nat.le_of_ble_eq_true rfl, Nat.le_of_ble_eq_true rfl, Nat.le_of_ble_eq_true rfl⟩ (Nat.le_of_ble_eq_true rfl) rfl rfl rfl rfl ?_
    refine zi_if_ne (tgt := 45) d_Pa_longestDrought_35 rfl (fun c_10 => ?_) (fun c_10 => ?_)
    · rw [if_neg c_10] at h
      refine zi_iconst 0 d_Pa_longestDrought_45 rfl ?_
      refine zi_lo [(0, .ref a0), (2, .int x2), (3, .int x3), (5, .int x5)] [0, 1, 2, 4] rfl ?_
      exact K_Pa_longestDrought_b46 n E S r16 a0 x2 x3 x5 0 q_9.2 r M' hr16 h
    · rw [if_pos c_10] at h
      refine zi_iload 3 d_Pa_longestDrought_38 rfl ?_
      refine zi_iconst 1 d_Pa_longestDrought_40 rfl ?_
      refine zi_iadd d_Pa_longestDrought_41 ?_
      refine zi_goto (tgt := 46) d_Pa_longestDrought_42 rfl ?_
      refine zi_lo [(0, .ref a0), (2, .int x2), (3, .int x3), (5, .int x5)] [0, 1, 2, 4] rfl ?_
      exact K_Pa_longestDrought_b46 n E S r16 a0 x2 x3 x5 (x4 + 1) q_9.2 r M' hr16 h
theorem K_Pa_longestDrought_b16 (n : Nat) (E : zE) (S : zS) (a0 : Nat) (x2 : Int32) (x3 : Int32) (x4 : Int32) (x5 : Int32) (M : zH) (r : Int32) (M' : zH)  (h : F_Pa_longestDrought_b16 n E S (a0, x2, x3, x4, x5, M) = some (r, M')) : zG E Y_Pa_longestDrought (some (.int r), S, M') 16 [(0, .ref a0), (2, .int x2), (3, .int x3), (4, .int x4), (5, .int x5)] [] S M 0 0 := by
  have key : ∀ (k : Nat) (a0 : Nat) (x2 : Int32) (x3 : Int32) (x4 : Int32) (x5 : Int32) (M : zH), zfix (fun r16 s => F_Pa_longestDrought_L16 n E S r16 s.1 s.2.1 s.2.2.1 s.2.2.2.1 s.2.2.2.2.1 s.2.2.2.2.2) k (a0, x2, x3, x4, x5, M) = some (r, M') → zG E Y_Pa_longestDrought (some (.int r), S, M') 16 [(0, .ref a0), (2, .int x2), (3, .int x3), (4, .int x4), (5, .int x5)] [] S M 0 0 := by
    intro k
    induction k with
    | zero => intro a0 x2 x3 x4 x5 M h; cases h
    | succ k ih => intro a0 x2 x3 x4 x5 M h; exact K_Pa_longestDrought_L16 n E S _ a0 x2 x3 x4 x5 M r M'  (fun a0 x2 x3 x4 x5 M h => ih a0 x2 x3 x4 x5 M h) h
  exact key n a0 x2 x3 x4 x5 M h
theorem K_Pa_longestDrought (n : Nat) (E : zE) (S : zS) (a0 : Nat) (a1 : Nat) (x2 : Int32) (M : zH) (r : Int32) (M' : zH)  (h : F_Pa_longestDrought n E S a0 a1 x2 M = some (r, M')) : zG E Y_Pa_longestDrought (some (.int r), S, M') 0 [(0, .ref a0), (1, .ref a1), (2, .int x2)] [] S M 0 0 := by
  unfold F_Pa_longestDrought at h
  refine zi_aload_n 0 d_Pa_longestDrought_0 rfl ?_
  obtain ⟨b_11, eb_11, h⟩ := zbind h
  refine zo_getR 4 zkd_4 1 d_Pa_longestDrought_1 eb_11 rfl tw_299 rfl ?_
  refine zi_aload_n 1 d_Pa_longestDrought_4 rfl ?_
  obtain ⟨u_12, eu_12, h⟩ := zbind h
  obtain ⟨q_13, eq_13, h⟩ := zbind h
  refine zo_virt (k' := 0) (n' := 0) 8 [.ref a1] [] [] zkd_3 (zck_s eu_12) (C_Ni_copyFrom n E S b_11 a1 M q_13 eq_13) d_Pa_longestDrought_5 tw_867 tw_984 tw_865 tw_866 tw_2 dd_Ni_copyFrom ⟨Nat.le_of_ble_eq_true rfl, Nat.le_of_ble_eq_true rfl, Nat.le_of_ble_eq_true rfl, Nat.le_of_ble_eq_true rfl⟩ (Nat.le_of_ble_eq_true rfl) rfl rfl rfl rfl ?_
  refine zi_iconst 0 d_Pa_longestDrought_8 rfl ?_
  refine zi_istore_n [(3, .int 0), (0, .ref a0), (1, .ref a1), (2, .int x2)] d_Pa_longestDrought_9 (by decide) rfl ?_
  refine zi_iconst 0 d_Pa_longestDrought_10 rfl ?_
  refine zi_istore [(4, .int 0), (3, .int 0), (0, .ref a0), (1, .ref a1), (2, .int x2)] d_Pa_longestDrought_11 (by decide) rfl ?_
  refine zi_iconst 0 d_Pa_longestDrought_13 rfl ?_
  refine zi_istore [(5, .int 0), (4, .int 0), (3, .int 0), (0, .ref a0), (1, .ref a1), (2, .int x2)] d_Pa_longestDrought_14 (by decide) rfl ?_
  refine zi_lo [(0, .ref a0), (2, .int x2), (3, .int 0), (4, .int 0), (5, .int 0)] [3, 5, 2, 1, 0] rfl ?_
  exact K_Pa_longestDrought_b16 n E S a0 x2 0 0 0 q_13 r M'  h
theorem C_Pa_longestDrought (n : Nat) (E : zE) (S : zS) (a0 : Nat) (a1 : Nat) (x2 : Int32) (M : zH) (r : Int32) (M' : zH) (h : F_Pa_longestDrought n E S a0 a1 x2 M = some (r, M')) : zC E Y_Pa_longestDrought [.ref a0, .ref a1, .int x2] S M (some (.int r), S, M') :=
  zC.of (Or.inl (show plainName "NightColander$Paper" = true by decide)) (Nat.le_of_ble_eq_true rfl) (trivial) (K_Pa_longestDrought n E S a0 a1 x2 M r M' h)
theorem d_NC_drought_0 : decode (yB Y_NC_drought) 0 = .ok (.iload_n 1, 1) := by decide +kernel
theorem d_NC_drought_1 : decode (yB Y_NC_drought) 1 = .ok (.invokestatic 149, 3) := by decide +kernel
theorem d_NC_drought_4 : decode (yB Y_NC_drought) 4 = .ok (.ifCond .eq 18, 3) := by decide +kernel
theorem d_NC_drought_7 : decode (yB Y_NC_drought) 7 = .ok (.aload_n 0, 1) := by decide +kernel
theorem d_NC_drought_8 : decode (yB Y_NC_drought) 8 = .ok (.getfield 86, 3) := by decide +kernel
theorem d_NC_drought_11 : decode (yB Y_NC_drought) 11 = .ok (.aload_n 0, 1) := by decide +kernel
theorem d_NC_drought_12 : decode (yB Y_NC_drought) 12 = .ok (.getfield 12, 3) := by decide +kernel
theorem d_NC_drought_15 : decode (yB Y_NC_drought) 15 = .ok (.iload_n 1, 1) := by decide +kernel
theorem d_NC_drought_16 : decode (yB Y_NC_drought) 16 = .ok (.invokevirtual 296, 3) := by decide +kernel
theorem d_NC_drought_19 : decode (yB Y_NC_drought) 19 = .ok (.goto 4, 3) := by decide +kernel
theorem d_NC_drought_22 : decode (yB Y_NC_drought) 22 = .ok (.iconst (-1), 1) := by decide +kernel
theorem d_NC_drought_23 : decode (yB Y_NC_drought) 23 = .ok (.ireturn, 1) := by decide +kernel
def F_NC_drought (n : Nat) (E : zE) (S : zS) (a0 : Nat) (x1 : Int32) (M : zH) : Option (Int32 × zH) :=
  (F_NC_isField n E S x1 M).bind fun q_1 =>
  if q_1.1 = true then
    (zgR S a0 10 12).bind fun b_3 =>
    (zgR S a0 10 0).bind fun b_4 =>
    (zck S b_3 4).bind fun u_5 =>
    (F_Pa_longestDrought n E S b_3 b_4 x1 q_1.2).bind fun q_6 =>
    some (q_6.1, q_6.2)
  else
    some ((-1), q_1.2)
theorem K_NC_drought (n : Nat) (E : zE) (S : zS) (a0 : Nat) (x1 : Int32) (M : zH) (r : Int32) (M' : zH)  (h : F_NC_drought n E S a0 x1 M = some (r, M')) : zG E Y_NC_drought (some (.int r), S, M') 0 [(0, .ref a0), (1, .int x1)] [] S M 0 0 := by
  unfold F_NC_drought at h
  refine zi_iload_n 1 d_NC_drought_0 rfl ?_
  obtain ⟨q_1, eq_1, h⟩ := zbind h
  refine zo_stat (k' := 0) (n' := 0) 4 [.int x1] [] [.int (bI q_1.1)] (C_NC_isField n E S x1 M q_1.1 q_1.2 eq_1) d_NC_drought_1 tw_465 tw_463 tw_464 tw_1 dd_NC_isField ⟨Nat.le_of_ble_eq_true rfl, Nat.le_of_ble_eq_true rfl, Nat.le_of_ble_eq_true rfl, Nat.le_of_ble_eq_true rfl⟩ (Nat.le_of_ble_eq_true rfl) rfl rfl rfl rfl ?_
  refine zo_ifeqB d_NC_drought_4 rfl 7 rfl (fun c_2 => ?_) (fun c_2 => ?_)
  · rw [if_neg c_2] at h
    refine zi_iconst (-1) d_NC_drought_22 rfl ?_
    cases h
    exact zo_ret d_NC_drought_23 (Nat.le_of_ble_eq_true rfl) (Nat.le_of_ble_eq_true rfl) rfl
  · rw [if_pos c_2] at h
    refine zi_aload_n 0 d_NC_drought_7 rfl ?_
    obtain ⟨b_3, eb_3, h⟩ := zbind h
    refine zo_getR 11 zkd_10 12 d_NC_drought_8 eb_3 rfl tw_344 rfl ?_
    refine zi_aload_n 0 d_NC_drought_11 rfl ?_
    obtain ⟨b_4, eb_4, h⟩ := zbind h
    refine zo_getR 15 zkd_10 0 d_NC_drought_12 eb_4 rfl tw_332 rfl ?_
    refine zi_iload_n 1 d_NC_drought_15 rfl ?_
    obtain ⟨u_5, eu_5, h⟩ := zbind h
    obtain ⟨q_6, eq_6, h⟩ := zbind h
    refine zo_virt (k' := 0) (n' := 0) 19 [.ref b_4, .int x1] [] [.int q_6.1] zkd_4 (zck_s eu_5) (C_Pa_longestDrought n E S b_3 b_4 x1 q_1.2 q_6.1 q_6.2 eq_6) d_NC_drought_16 tw_1119 tw_1116 tw_1117 tw_1118 tw_12 dd_Pa_longestDrought ⟨Nat.le_of_ble_eq_true rfl, Nat.le_of_ble_eq_true rfl, Nat.le_of_ble_eq_true rfl, Nat.le_of_ble_eq_true rfl⟩ (Nat.le_of_ble_eq_true rfl) rfl rfl rfl rfl ?_
    refine zi_goto (tgt := 23) d_NC_drought_19 rfl ?_
    cases h
    exact zo_ret d_NC_drought_23 (Nat.le_of_ble_eq_true rfl) (Nat.le_of_ble_eq_true rfl) rfl
theorem C_NC_drought (n : Nat) (E : zE) (S : zS) (a0 : Nat) (x1 : Int32) (M : zH) (r : Int32) (M' : zH) (h : F_NC_drought n E S a0 x1 M = some (r, M')) : zC E Y_NC_drought [.ref a0, .int x1] S M (some (.int r), S, M') :=
  zC.of (Or.inl (show plainName "NightColander" = true by decide)) (Nat.le_of_ble_eq_true rfl) (trivial) (K_NC_drought n E S a0 x1 M r M' h)
theorem d_NC_luck_0 : decode (yB Y_NC_luck) 0 = .ok (.iload_n 1, 1) := by decide +kernel
theorem d_NC_luck_1 : decode (yB Y_NC_luck) 1 = .ok (.invokestatic 149, 3) := by decide +kernel
theorem d_NC_luck_4 : decode (yB Y_NC_luck) 4 = .ok (.ifCond .ne 5, 3) := by decide +kernel
theorem d_NC_luck_7 : decode (yB Y_NC_luck) 7 = .ok (.iconst (-1), 1) := by decide +kernel
theorem d_NC_luck_8 : decode (yB Y_NC_luck) 8 = .ok (.ireturn, 1) := by decide +kernel
theorem d_NC_luck_9 : decode (yB Y_NC_luck) 9 = .ok (.aload_n 0, 1) := by decide +kernel
theorem d_NC_luck_10 : decode (yB Y_NC_luck) 10 = .ok (.getfield 61, 3) := by decide +kernel
theorem d_NC_luck_13 : decode (yB Y_NC_luck) 13 = .ok (.aload_n 0, 1) := by decide +kernel
theorem d_NC_luck_14 : decode (yB Y_NC_luck) 14 = .ok (.getfield 12, 3) := by decide +kernel
theorem d_NC_luck_17 : decode (yB Y_NC_luck) 17 = .ok (.iload_n 1, 1) := by decide +kernel
theorem d_NC_luck_18 : decode (yB Y_NC_luck) 18 = .ok (.invokevirtual 186, 3) := by decide +kernel
theorem d_NC_luck_21 : decode (yB Y_NC_luck) 21 = .ok (.istore_n 2, 1) := by decide +kernel
theorem d_NC_luck_22 : decode (yB Y_NC_luck) 22 = .ok (.iconst 0, 1) := by decide +kernel
theorem d_NC_luck_23 : decode (yB Y_NC_luck) 23 = .ok (.istore_n 3, 1) := by decide +kernel
theorem d_NC_luck_24 : decode (yB Y_NC_luck) 24 = .ok (.iconst 0, 1) := by decide +kernel
theorem d_NC_luck_25 : decode (yB Y_NC_luck) 25 = .ok (.istore 4, 2) := by decide +kernel
theorem d_NC_luck_27 : decode (yB Y_NC_luck) 27 = .ok (.iload 4, 2) := by decide +kernel
theorem d_NC_luck_29 : decode (yB Y_NC_luck) 29 = .ok (.bipush 8, 2) := by decide +kernel
theorem d_NC_luck_31 : decode (yB Y_NC_luck) 31 = .ok (.if_icmp .ge 29, 3) := by decide +kernel
theorem d_NC_luck_34 : decode (yB Y_NC_luck) 34 = .ok (.aload_n 0, 1) := by decide +kernel
theorem d_NC_luck_35 : decode (yB Y_NC_luck) 35 = .ok (.getfield 61, 3) := by decide +kernel
theorem d_NC_luck_38 : decode (yB Y_NC_luck) 38 = .ok (.aload_n 0, 1) := by decide +kernel
theorem d_NC_luck_39 : decode (yB Y_NC_luck) 39 = .ok (.getfield 12, 3) := by decide +kernel
theorem d_NC_luck_42 : decode (yB Y_NC_luck) 42 = .ok (.iload 4, 2) := by decide +kernel
theorem d_NC_luck_44 : decode (yB Y_NC_luck) 44 = .ok (.invokevirtual 186, 3) := by decide +kernel
theorem d_NC_luck_47 : decode (yB Y_NC_luck) 47 = .ok (.iload_n 2, 1) := by decide +kernel
theorem d_NC_luck_48 : decode (yB Y_NC_luck) 48 = .ok (.if_icmp .ge 6, 3) := by decide +kernel
theorem d_NC_luck_51 : decode (yB Y_NC_luck) 51 = .ok (.iinc 3 1, 3) := by decide +kernel
theorem d_NC_luck_54 : decode (yB Y_NC_luck) 54 = .ok (.iinc 4 1, 3) := by decide +kernel
theorem d_NC_luck_57 : decode (yB Y_NC_luck) 57 = .ok (.goto (-30), 3) := by decide +kernel
theorem d_NC_luck_60 : decode (yB Y_NC_luck) 60 = .ok (.iload_n 3, 1) := by decide +kernel
theorem d_NC_luck_61 : decode (yB Y_NC_luck) 61 = .ok (.ireturn, 1) := by decide +kernel
def F_NC_luck_b54 (n : Nat) (E : zE) (S : zS) (r27 : Nat × Int32 × Int32 × Int32 × zH → Option (Int32 × zH)) (a0 : Nat) (x2 : Int32) (x3 : Int32) (x4 : Int32) (M : zH) : Option (Int32 × zH) :=
  r27 (a0, x2, x3, x4 + 1, M)
def F_NC_luck_L27 (n : Nat) (E : zE) (S : zS) (r27 : Nat × Int32 × Int32 × Int32 × zH → Option (Int32 × zH)) (a0 : Nat) (x2 : Int32) (x3 : Int32) (x4 : Int32) (M : zH) : Option (Int32 × zH) :=
  if 8 ≤ x4 then
    some (x3, M)
  else
    (zgR S a0 10 9).bind fun b_2 =>
    (zgR S a0 10 0).bind fun b_3 =>
    (zck S b_2 1).bind fun u_4 =>
    (F_Ju_threadsOn n E S b_2 b_3 x4 M).bind fun q_5 =>
    if x2 ≤ q_5.1 then
      F_NC_luck_b54 n E S r27 a0 x2 x3 x4 q_5.2
    else
      F_NC_luck_b54 n E S r27 a0 x2 (x3 + 1) x4 q_5.2
def F_NC_luck_b27 (n : Nat) (E : zE) (S : zS) : Nat × Int32 × Int32 × Int32 × zH → Option (Int32 × zH) := zfix (fun r27 s => F_NC_luck_L27 n E S r27 s.1 s.2.1 s.2.2.1 s.2.2.2.1 s.2.2.2.2) n
def F_NC_luck (n : Nat) (E : zE) (S : zS) (a0 : Nat) (x1 : Int32) (M : zH) : Option (Int32 × zH) :=
  (F_NC_isField n E S x1 M).bind fun q_7 =>
  if q_7.1 = true then
    (zgR S a0 10 9).bind fun b_9 =>
    (zgR S a0 10 0).bind fun b_10 =>
    (zck S b_9 1).bind fun u_11 =>
    (F_Ju_threadsOn n E S b_9 b_10 x1 q_7.2).bind fun q_12 =>
    F_NC_luck_b27 n E S (a0, q_12.1, 0, 0, q_12.2)
  else
    some ((-1), q_7.2)
theorem K_NC_luck_b54 (n : Nat) (E : zE) (S : zS) (r27 : Nat × Int32 × Int32 × Int32 × zH → Option (Int32 × zH)) (a0 : Nat) (x2 : Int32) (x3 : Int32) (x4 : Int32) (M : zH) (r : Int32) (M' : zH) (hr27 : ∀ (a0 : Nat) (x2 : Int32) (x3 : Int32) (x4 : Int32) (M : zH), r27 (a0, x2, x3, x4, M) = some (r, M') → zG E Y_NC_luck (some (.int r), S, M') 27 [(0, .ref a0), (2, .int x2), (3, .int x3), (4, .int x4)] [] S M 0 0) (h : F_NC_luck_b54 n E S r27 a0 x2 x3 x4 M = some (r, M')) : zG E Y_NC_luck (some (.int r), S, M') 54 [(0, .ref a0), (2, .int x2), (3, .int x3), (4, .int x4)] [] S M 0 0 := by
  unfold F_NC_luck_b54 at h
  refine zi_iinc 3 (x4 + 1) [(4, .int (x4 + 1)), (0, .ref a0), (2, .int x2), (3, .int x3)] d_NC_luck_54 rfl rfl (by decide) rfl ?_
  refine zi_goto (tgt := 27) d_NC_luck_57 rfl ?_
  refine zi_lo [(0, .ref a0), (2, .int x2), (3, .int x3), (4, .int (x4 + 1))] [1, 2, 3, 0] rfl ?_
  exact hr27 a0 x2 x3 (x4 + 1) M h
theorem K_NC_luck_L27 (n : Nat) (E : zE) (S : zS) (r27 : Nat × Int32 × Int32 × Int32 × zH → Option (Int32 × zH)) (a0 : Nat) (x2 : Int32) (x3 : Int32) (x4 : Int32) (M : zH) (r : Int32) (M' : zH) (hr27 : ∀ (a0 : Nat) (x2 : Int32) (x3 : Int32) (x4 : Int32) (M : zH), r27 (a0, x2, x3, x4, M) = some (r, M') → zG E Y_NC_luck (some (.int r), S, M') 27 [(0, .ref a0), (2, .int x2), (3, .int x3), (4, .int x4)] [] S M 0 0) (h : F_NC_luck_L27 n E S r27 a0 x2 x3 x4 M = some (r, M')) : zG E Y_NC_luck (some (.int r), S, M') 27 [(0, .ref a0), (2, .int x2), (3, .int x3), (4, .int x4)] [] S M 0 0 := by
  unfold F_NC_luck_L27 at h
  refine zi_iload 3 d_NC_luck_27 rfl ?_
  refine zi_bipush 8 d_NC_luck_29 rfl ?_
  refine zi_icmp_ge (tgt := 60) d_NC_luck_31 rfl (fun c_1 => ?_) (fun c_1 => ?_)
  · rw [if_pos c_1] at h
    refine zi_iload_n 2 d_NC_luck_60 rfl ?_
    cases h
    exact zo_ret d_NC_luck_61 (Nat.le_of_ble_eq_true rfl) (Nat.le_of_ble_eq_true rfl) rfl
  · rw [if_neg c_1] at h
    refine zi_aload_n 0 d_NC_luck_34 rfl ?_
    obtain ⟨b_2, eb_2, h⟩ := zbind h
    refine zo_getR 38 zkd_10 9 d_NC_luck_35 eb_2 rfl tw_341 rfl ?_
    refine zi_aload_n 0 d_NC_luck_38 rfl ?_
    obtain ⟨b_3, eb_3, h⟩ := zbind h
    refine zo_getR 42 zkd_10 0 d_NC_luck_39 eb_3 rfl tw_332 rfl ?_
    refine zi_iload 3 d_NC_luck_42 rfl ?_
    obtain ⟨u_4, eu_4, h⟩ := zbind h
    obtain ⟨q_5, eq_5, h⟩ := zbind h
    refine zo_virt (k' := 0) (n' := 0) 47 [.ref b_3, .int x4] [] [.int q_5.1] zkd_1 (zck_s eu_4) (C_Ju_threadsOn n E S b_2 b_3 x4 M q_5.1 q_5.2 eq_5) d_NC_luck_44 tw_514 tw_511 tw_512 tw_513 tw_8 dd_Ju_threadsOn ⟨Nat.le_of_ble_eq_true rfl, Nat.le_of_ble_eq_true rfl, Nat.le_of_ble_eq_true rfl, Nat.le_of_ble_eq_true rfl⟩ (Nat.le_of_ble_eq_true rfl) rfl rfl rfl rfl ?_
    refine zi_iload_n 1 d_NC_luck_47 rfl ?_
    refine zi_icmp_ge (tgt := 54) d_NC_luck_48 rfl (fun c_6 => ?_) (fun c_6 => ?_)
    · rw [if_pos c_6] at h
      refine zi_lo [(0, .ref a0), (2, .int x2), (3, .int x3), (4, .int x4)] [0, 1, 2, 3] rfl ?_
      exact K_NC_luck_b54 n E S r27 a0 x2 x3 x4 q_5.2 r M' hr27 h
    · rw [if_neg c_6] at h
      refine zi_iinc 2 (x3 + 1) [(3, .int (x3 + 1)), (0, .ref a0), (2, .int x2), (4, .int x4)] d_NC_luck_51 rfl rfl (by decide) rfl ?_
      refine zi_lo [(0, .ref a0), (2, .int x2), (3, .int (x3 + 1)), (4, .int x4)] [1, 2, 0, 3] rfl ?_
      exact K_NC_luck_b54 n E S r27 a0 x2 (x3 + 1) x4 q_5.2 r M' hr27 h
theorem K_NC_luck_b27 (n : Nat) (E : zE) (S : zS) (a0 : Nat) (x2 : Int32) (x3 : Int32) (x4 : Int32) (M : zH) (r : Int32) (M' : zH)  (h : F_NC_luck_b27 n E S (a0, x2, x3, x4, M) = some (r, M')) : zG E Y_NC_luck (some (.int r), S, M') 27 [(0, .ref a0), (2, .int x2), (3, .int x3), (4, .int x4)] [] S M 0 0 := by
  have key : ∀ (k : Nat) (a0 : Nat) (x2 : Int32) (x3 : Int32) (x4 : Int32) (M : zH), zfix (fun r27 s => F_NC_luck_L27 n E S r27 s.1 s.2.1 s.2.2.1 s.2.2.2.1 s.2.2.2.2) k (a0, x2, x3, x4, M) = some (r, M') → zG E Y_NC_luck (some (.int r), S, M') 27 [(0, .ref a0), (2, .int x2), (3, .int x3), (4, .int x4)] [] S M 0 0 := by
    intro k
    induction k with
    | zero => intro a0 x2 x3 x4 M h; cases h
    | succ k ih => intro a0 x2 x3 x4 M h; exact K_NC_luck_L27 n E S _ a0 x2 x3 x4 M r M'  (fun a0 x2 x3 x4 M h => ih a0 x2 x3 x4 M h) h
  exact key n a0 x2 x3 x4 M h
theorem K_NC_luck (n : Nat) (E : zE) (S : zS) (a0 : Nat) (x1 : Int32) (M : zH) (r : Int32) (M' : zH)  (h : F_NC_luck n E S a0 x1 M = some (r, M')) : zG E Y_NC_luck (some (.int r), S, M') 0 [(0, .ref a0), (1, .int x1)] [] S M 0 0 := by
  unfold F_NC_luck at h
  refine zi_iload_n 1 d_NC_luck_0 rfl ?_
  obtain ⟨q_7, eq_7, h⟩ := zbind h
  refine zo_stat (k' := 0) (n' := 0) 4 [.int x1] [] [.int (bI q_7.1)] (C_NC_isField n E S x1 M q_7.1 q_7.2 eq_7) d_NC_luck_1 tw_465 tw_463 tw_464 tw_1 dd_NC_isField ⟨Nat.le_of_ble_eq_true rfl, Nat.le_of_ble_eq_true rfl, Nat.le_of_ble_eq_true rfl, Nat.le_of_ble_eq_true rfl⟩ (Nat.le_of_ble_eq_true rfl) rfl rfl rfl rfl ?_
  refine zo_ifneB d_NC_luck_4 rfl 7 rfl (fun c_8 => ?_) (fun c_8 => ?_)
  · rw [if_pos c_8] at h
    refine zi_aload_n 0 d_NC_luck_9 rfl ?_
    obtain ⟨b_9, eb_9, h⟩ := zbind h
    refine zo_getR 13 zkd_10 9 d_NC_luck_10 eb_9 rfl tw_341 rfl ?_
    refine zi_aload_n 0 d_NC_luck_13 rfl ?_
    obtain ⟨b_10, eb_10, h⟩ := zbind h
    refine zo_getR 17 zkd_10 0 d_NC_luck_14 eb_10 rfl tw_332 rfl ?_
    refine zi_iload_n 1 d_NC_luck_17 rfl ?_
    obtain ⟨u_11, eu_11, h⟩ := zbind h
    obtain ⟨q_12, eq_12, h⟩ := zbind h
    refine zo_virt (k' := 0) (n' := 0) 21 [.ref b_10, .int x1] [] [.int q_12.1] zkd_1 (zck_s eu_11) (C_Ju_threadsOn n E S b_9 b_10 x1 q_7.2 q_12.1 q_12.2 eq_12) d_NC_luck_18 tw_514 tw_511 tw_512 tw_513 tw_8 dd_Ju_threadsOn ⟨Nat.le_of_ble_eq_true rfl, Nat.le_of_ble_eq_true rfl, Nat.le_of_ble_eq_true rfl, Nat.le_of_ble_eq_true rfl⟩ (Nat.le_of_ble_eq_true rfl) rfl rfl rfl rfl ?_
    refine zi_istore_n [(2, .int q_12.1), (0, .ref a0), (1, .int x1)] d_NC_luck_21 (by decide) rfl ?_
    refine zi_iconst 0 d_NC_luck_22 rfl ?_
    refine zi_istore_n [(3, .int 0), (2, .int q_12.1), (0, .ref a0), (1, .int x1)] d_NC_luck_23 (by decide) rfl ?_
    refine zi_iconst 0 d_NC_luck_24 rfl ?_
    refine zi_istore [(4, .int 0), (3, .int 0), (2, .int q_12.1), (0, .ref a0), (1, .int x1)] d_NC_luck_25 (by decide) rfl ?_
    refine zi_lo [(0, .ref a0), (2, .int q_12.1), (3, .int 0), (4, .int 0)] [3, 2, 1, 0] rfl ?_
    exact K_NC_luck_b27 n E S a0 q_12.1 0 0 q_12.2 r M'  h
  · rw [if_neg c_8] at h
    refine zi_iconst (-1) d_NC_luck_7 rfl ?_
    cases h
    exact zo_ret d_NC_luck_8 (Nat.le_of_ble_eq_true rfl) (Nat.le_of_ble_eq_true rfl) rfl
theorem C_NC_luck (n : Nat) (E : zE) (S : zS) (a0 : Nat) (x1 : Int32) (M : zH) (r : Int32) (M' : zH) (h : F_NC_luck n E S a0 x1 M = some (r, M')) : zC E Y_NC_luck [.ref a0, .int x1] S M (some (.int r), S, M') :=
  zC.of (Or.inl (show plainName "NightColander" = true by decide)) (Nat.le_of_ble_eq_true rfl) (trivial) (K_NC_luck n E S a0 x1 M r M' h)
theorem d_NC_together_0 : decode (yB Y_NC_together) 0 = .ok (.iload_n 1, 1) := by decide +kernel
theorem d_NC_together_1 : decode (yB Y_NC_together) 1 = .ok (.invokestatic 111, 3) := by decide +kernel
theorem d_NC_together_4 : decode (yB Y_NC_together) 4 = .ok (.ifCond .eq 15, 3) := by decide +kernel
theorem d_NC_together_7 : decode (yB Y_NC_together) 7 = .ok (.iload_n 2, 1) := by decide +kernel
theorem d_NC_together_8 : decode (yB Y_NC_together) 8 = .ok (.invokestatic 111, 3) := by decide +kernel
theorem d_NC_together_11 : decode (yB Y_NC_together) 11 = .ok (.ifCond .eq 8, 3) := by decide +kernel
theorem d_NC_together_14 : decode (yB Y_NC_together) 14 = .ok (.iload_n 1, 1) := by decide +kernel
theorem d_NC_together_15 : decode (yB Y_NC_together) 15 = .ok (.iload_n 2, 1) := by decide +kernel
theorem d_NC_together_16 : decode (yB Y_NC_together) 16 = .ok (.if_icmp .ne 5, 3) := by decide +kernel
theorem d_NC_together_19 : decode (yB Y_NC_together) 19 = .ok (.iconst (-1), 1) := by decide +kernel
theorem d_NC_together_20 : decode (yB Y_NC_together) 20 = .ok (.ireturn, 1) := by decide +kernel
theorem d_NC_together_21 : decode (yB Y_NC_together) 21 = .ok (.iconst 1, 1) := by decide +kernel
theorem d_NC_together_22 : decode (yB Y_NC_together) 22 = .ok (.istore_n 3, 1) := by decide +kernel
theorem d_NC_together_23 : decode (yB Y_NC_together) 23 = .ok (.iload_n 3, 1) := by decide +kernel
theorem d_NC_together_24 : decode (yB Y_NC_together) 24 = .ok (.bipush 8, 2) := by decide +kernel
theorem d_NC_together_26 : decode (yB Y_NC_together) 26 = .ok (.if_icmp .ge 24, 3) := by decide +kernel
theorem d_NC_together_29 : decode (yB Y_NC_together) 29 = .ok (.iload_n 1, 1) := by decide +kernel
theorem d_NC_together_30 : decode (yB Y_NC_together) 30 = .ok (.iload_n 2, 1) := by decide +kernel
theorem d_NC_together_31 : decode (yB Y_NC_together) 31 = .ok (.isub, 1) := by decide +kernel
theorem d_NC_together_32 : decode (yB Y_NC_together) 32 = .ok (.iload_n 3, 1) := by decide +kernel
theorem d_NC_together_33 : decode (yB Y_NC_together) 33 = .ok (.imul, 1) := by decide +kernel
theorem d_NC_together_34 : decode (yB Y_NC_together) 34 = .ok (.bipush 8, 2) := by decide +kernel
theorem d_NC_together_36 : decode (yB Y_NC_together) 36 = .ok (.invokestatic 299, 3) := by decide +kernel
theorem d_NC_together_39 : decode (yB Y_NC_together) 39 = .ok (.ifCond .ne 5, 3) := by decide +kernel
theorem d_NC_together_42 : decode (yB Y_NC_together) 42 = .ok (.iload_n 3, 1) := by decide +kernel
theorem d_NC_together_43 : decode (yB Y_NC_together) 43 = .ok (.ireturn, 1) := by decide +kernel
theorem d_NC_together_44 : decode (yB Y_NC_together) 44 = .ok (.iinc 3 1, 3) := by decide +kernel
theorem d_NC_together_47 : decode (yB Y_NC_together) 47 = .ok (.goto (-24), 3) := by decide +kernel
theorem d_NC_together_50 : decode (yB Y_NC_together) 50 = .ok (.bipush 8, 2) := by decide +kernel
theorem d_NC_together_52 : decode (yB Y_NC_together) 52 = .ok (.ireturn, 1) := by decide +kernel
def F_NC_together_L23 (n : Nat) (E : zE) (S : zS) (r23 : Int32 × Int32 × Int32 × zH → Option (Int32 × zH)) (x1 : Int32) (x2 : Int32) (x3 : Int32) (M : zH) : Option (Int32 × zH) :=
  if 8 ≤ x3 then
    some (8, M)
  else
    (F_Jm_floorMod n E S ((x1 - x2) * x3) 8 M).bind fun q_2 =>
    if q_2.1 = 0 then
      some (x3, q_2.2)
    else
      r23 (x1, x2, x3 + 1, q_2.2)
def F_NC_together_b23 (n : Nat) (E : zE) (S : zS) : Int32 × Int32 × Int32 × zH → Option (Int32 × zH) := zfix (fun r23 s => F_NC_together_L23 n E S r23 s.1 s.2.1 s.2.2.1 s.2.2.2) n
def F_NC_together (n : Nat) (E : zE) (S : zS) (a0 : Nat) (x1 : Int32) (x2 : Int32) (M : zH) : Option (Int32 × zH) :=
  (F_NC_isRing n E S x1 M).bind fun q_4 =>
  if q_4.1 = true then
    (F_NC_isRing n E S x2 q_4.2).bind fun q_6 =>
    if q_6.1 = true then
      if x1 = x2 then
        some ((-1), q_6.2)
      else
        F_NC_together_b23 n E S (x1, x2, 1, q_6.2)
    else
      some ((-1), q_6.2)
  else
    some ((-1), q_4.2)
theorem K_NC_together_L23 (n : Nat) (E : zE) (S : zS) (r23 : Int32 × Int32 × Int32 × zH → Option (Int32 × zH)) (x1 : Int32) (x2 : Int32) (x3 : Int32) (M : zH) (r : Int32) (M' : zH) (hr23 : ∀ (x1 : Int32) (x2 : Int32) (x3 : Int32) (M : zH), r23 (x1, x2, x3, M) = some (r, M') → zG E Y_NC_together (some (.int r), S, M') 23 [(1, .int x1), (2, .int x2), (3, .int x3)] [] S M 0 0) (h : F_NC_together_L23 n E S r23 x1 x2 x3 M = some (r, M')) : zG E Y_NC_together (some (.int r), S, M') 23 [(1, .int x1), (2, .int x2), (3, .int x3)] [] S M 0 0 := by
  unfold F_NC_together_L23 at h
  refine zi_iload_n 2 d_NC_together_23 rfl ?_
  refine zi_bipush 8 d_NC_together_24 rfl ?_
  refine zi_icmp_ge (tgt := 50) d_NC_together_26 rfl (fun c_1 => ?_) (fun c_1 => ?_)
  · rw [if_pos c_1] at h
    refine zi_bipush 8 d_NC_together_50 rfl ?_
    cases h
    exact zo_ret d_NC_together_52 (Nat.le_of_ble_eq_true rfl) (Nat.le_of_ble_eq_true rfl) rfl
  · rw [if_neg c_1] at h
    refine zi_iload_n 0 d_NC_together_29 rfl ?_
    refine zi_iload_n 1 d_NC_together_30 rfl ?_
    refine zi_isub d_NC_together_31 ?_
    refine zi_iload_n 2 d_NC_together_32 rfl ?_
    refine zi_imul d_NC_together_33 ?_
    refine zi_bipush 8 d_NC_together_34 rfl ?_
    obtain ⟨q_2, eq_2, h⟩ := zbind h
    refine zo_stat (k' := 0) (n' := 0) 39 [.int ((x1 - x2) * x3), .int 8] [] [.int q_2.1] (C_Jm_floorMod n E S ((x1 - x2) * x3) 8 M q_2.1 q_2.2 eq_2) d_NC_together_36 tw_409 tw_1128 tw_408 tw_14 dd_Jm_floorMod ⟨Nat.le_of_ble_eq_true rfl, Nat.le_of_ble_eq_true rfl, Nat.le_of_ble_eq_true rfl, Nat.le_of_ble_eq_true rfl⟩ (Nat.le_of_ble_eq_true rfl) rfl rfl rfl rfl ?_
    refine zi_if_ne (tgt := 44) d_NC_together_39 rfl (fun c_3 => ?_) (fun c_3 => ?_)
    · rw [if_neg c_3] at h
      refine zi_iinc 2 (x3 + 1) [(3, .int (x3 + 1)), (1, .int x1), (2, .int x2)] d_NC_together_44 rfl rfl (by decide) rfl ?_
      refine zi_goto (tgt := 23) d_NC_together_47 rfl ?_
      refine zi_lo [(1, .int x1), (2, .int x2), (3, .int (x3 + 1))] [1, 2, 0] rfl ?_
      exact hr23 x1 x2 (x3 + 1) q_2.2 h
    · rw [if_pos c_3] at h
      refine zi_iload_n 2 d_NC_together_42 rfl ?_
      cases h
      exact zo_ret d_NC_together_43 (Nat.le_of_ble_eq_true rfl) (Nat.le_of_ble_eq_true rfl) rfl
theorem K_NC_together_b23 (n : Nat) (E : zE) (S : zS) (x1 : Int32) (x2 : Int32) (x3 : Int32) (M : zH) (r : Int32) (M' : zH)  (h : F_NC_together_b23 n E S (x1, x2, x3, M) = some (r, M')) : zG E Y_NC_together (some (.int r), S, M') 23 [(1, .int x1), (2, .int x2), (3, .int x3)] [] S M 0 0 := by
  have key : ∀ (k : Nat) (x1 : Int32) (x2 : Int32) (x3 : Int32) (M : zH), zfix (fun r23 s => F_NC_together_L23 n E S r23 s.1 s.2.1 s.2.2.1 s.2.2.2) k (x1, x2, x3, M) = some (r, M') → zG E Y_NC_together (some (.int r), S, M') 23 [(1, .int x1), (2, .int x2), (3, .int x3)] [] S M 0 0 := by
    intro k
    induction k with
    | zero => intro x1 x2 x3 M h; cases h
    | succ k ih => intro x1 x2 x3 M h; exact K_NC_together_L23 n E S _ x1 x2 x3 M r M'  (fun x1 x2 x3 M h => ih x1 x2 x3 M h) h
  exact key n x1 x2 x3 M h
theorem K_NC_together (n : Nat) (E : zE) (S : zS) (a0 : Nat) (x1 : Int32) (x2 : Int32) (M : zH) (r : Int32) (M' : zH)  (h : F_NC_together n E S a0 x1 x2 M = some (r, M')) : zG E Y_NC_together (some (.int r), S, M') 0 [(0, .ref a0), (1, .int x1), (2, .int x2)] [] S M 0 0 := by
  unfold F_NC_together at h
  refine zi_iload_n 1 d_NC_together_0 rfl ?_
  obtain ⟨q_4, eq_4, h⟩ := zbind h
  refine zo_stat (k' := 0) (n' := 0) 4 [.int x1] [] [.int (bI q_4.1)] (C_NC_isRing n E S x1 M q_4.1 q_4.2 eq_4) d_NC_together_1 tw_396 tw_394 tw_395 tw_1 dd_NC_isRing ⟨Nat.le_of_ble_eq_true rfl, Nat.le_of_ble_eq_true rfl, Nat.le_of_ble_eq_true rfl, Nat.le_of_ble_eq_true rfl⟩ (Nat.le_of_ble_eq_true rfl) rfl rfl rfl rfl ?_
  refine zo_ifeqB d_NC_together_4 rfl 7 rfl (fun c_5 => ?_) (fun c_5 => ?_)
  · rw [if_neg c_5] at h
    refine zi_iconst (-1) d_NC_together_19 rfl ?_
    cases h
    exact zo_ret d_NC_together_20 (Nat.le_of_ble_eq_true rfl) (Nat.le_of_ble_eq_true rfl) rfl
  · rw [if_pos c_5] at h
    refine zi_iload_n 2 d_NC_together_7 rfl ?_
    obtain ⟨q_6, eq_6, h⟩ := zbind h
    refine zo_stat (k' := 0) (n' := 0) 11 [.int x2] [] [.int (bI q_6.1)] (C_NC_isRing n E S x2 q_4.2 q_6.1 q_6.2 eq_6) d_NC_together_8 tw_396 tw_394 tw_395 tw_1 dd_NC_isRing ⟨Nat.le_of_ble_eq_true rfl, Nat.le_of_ble_eq_true rfl, Nat.le_of_ble_eq_true rfl, Nat.le_of_ble_eq_true rfl⟩ (Nat.le_of_ble_eq_true rfl) rfl rfl rfl rfl ?_
    refine zo_ifeqB d_NC_together_11 rfl 14 rfl (fun c_7 => ?_) (fun c_7 => ?_)
    · rw [if_neg c_7] at h
      refine zi_iconst (-1) d_NC_together_19 rfl ?_
      cases h
      exact zo_ret d_NC_together_20 (Nat.le_of_ble_eq_true rfl) (Nat.le_of_ble_eq_true rfl) rfl
    · rw [if_pos c_7] at h
      refine zi_iload_n 1 d_NC_together_14 rfl ?_
      refine zi_iload_n 2 d_NC_together_15 rfl ?_
      refine zi_icmp_ne (tgt := 21) d_NC_together_16 rfl (fun c_8 => ?_) (fun c_8 => ?_)
      · rw [if_neg c_8] at h
        refine zi_iconst 1 d_NC_together_21 rfl ?_
        refine zi_istore_n [(3, .int 1), (0, .ref a0), (1, .int x1), (2, .int x2)] d_NC_together_22 (by decide) rfl ?_
        refine zi_lo [(1, .int x1), (2, .int x2), (3, .int 1)] [2, 3, 0] rfl ?_
        exact K_NC_together_b23 n E S x1 x2 1 q_6.2 r M'  h
      · rw [if_pos c_8] at h
        refine zi_iconst (-1) d_NC_together_19 rfl ?_
        cases h
        exact zo_ret d_NC_together_20 (Nat.le_of_ble_eq_true rfl) (Nat.le_of_ble_eq_true rfl) rfl
theorem C_NC_together (n : Nat) (E : zE) (S : zS) (a0 : Nat) (x1 : Int32) (x2 : Int32) (M : zH) (r : Int32) (M' : zH) (h : F_NC_together n E S a0 x1 x2 M = some (r, M')) : zC E Y_NC_together [.ref a0, .int x1, .int x2] S M (some (.int r), S, M') :=
  zC.of (Or.inl (show plainName "NightColander" = true by decide)) (Nat.le_of_ble_eq_true rfl) (trivial) (K_NC_together n E S a0 x1 x2 M r M' h)
theorem d_NC_settled_0 : decode (yB Y_NC_settled) 0 = .ok (.aload_n 0, 1) := by decide +kernel
theorem d_NC_settled_1 : decode (yB Y_NC_settled) 1 = .ok (.getfield 12, 3) := by decide +kernel
theorem d_NC_settled_4 : decode (yB Y_NC_settled) 4 = .ok (.iload_n 1, 1) := by decide +kernel
theorem d_NC_settled_5 : decode (yB Y_NC_settled) 5 = .ok (.invokevirtual 161, 3) := by decide +kernel
theorem d_NC_settled_8 : decode (yB Y_NC_settled) 8 = .ok (.ifCond .ne 5, 3) := by decide +kernel
theorem d_NC_settled_11 : decode (yB Y_NC_settled) 11 = .ok (.iconst (-1), 1) := by decide +kernel
theorem d_NC_settled_12 : decode (yB Y_NC_settled) 12 = .ok (.ireturn, 1) := by decide +kernel
theorem d_NC_settled_13 : decode (yB Y_NC_settled) 13 = .ok (.iload_n 1, 1) := by decide +kernel
theorem d_NC_settled_14 : decode (yB Y_NC_settled) 14 = .ok (.ifCond .ne 15, 3) := by decide +kernel
theorem d_NC_settled_17 : decode (yB Y_NC_settled) 17 = .ok (.aload_n 0, 1) := by decide +kernel
theorem d_NC_settled_18 : decode (yB Y_NC_settled) 18 = .ok (.getfield 12, 3) := by decide +kernel
theorem d_NC_settled_21 : decode (yB Y_NC_settled) 21 = .ok (.getfield 155, 3) := by decide +kernel
theorem d_NC_settled_24 : decode (yB Y_NC_settled) 24 = .ok (.iconst 1, 1) := by decide +kernel
theorem d_NC_settled_25 : decode (yB Y_NC_settled) 25 = .ok (.isub, 1) := by decide +kernel
theorem d_NC_settled_26 : decode (yB Y_NC_settled) 26 = .ok (.goto 6, 3) := by decide +kernel
theorem d_NC_settled_29 : decode (yB Y_NC_settled) 29 = .ok (.iload_n 1, 1) := by decide +kernel
theorem d_NC_settled_30 : decode (yB Y_NC_settled) 30 = .ok (.iconst 1, 1) := by decide +kernel
theorem d_NC_settled_31 : decode (yB Y_NC_settled) 31 = .ok (.isub, 1) := by decide +kernel
theorem d_NC_settled_32 : decode (yB Y_NC_settled) 32 = .ok (.istore_n 2, 1) := by decide +kernel
theorem d_NC_settled_33 : decode (yB Y_NC_settled) 33 = .ok (.aload_n 0, 1) := by decide +kernel
theorem d_NC_settled_34 : decode (yB Y_NC_settled) 34 = .ok (.getfield 12, 3) := by decide +kernel
theorem d_NC_settled_37 : decode (yB Y_NC_settled) 37 = .ok (.getfield 167, 3) := by decide +kernel
theorem d_NC_settled_40 : decode (yB Y_NC_settled) 40 = .ok (.iload_n 1, 1) := by decide +kernel
theorem d_NC_settled_41 : decode (yB Y_NC_settled) 41 = .ok (.iaload, 1) := by decide +kernel
theorem d_NC_settled_42 : decode (yB Y_NC_settled) 42 = .ok (.aload_n 0, 1) := by decide +kernel
theorem d_NC_settled_43 : decode (yB Y_NC_settled) 43 = .ok (.getfield 12, 3) := by decide +kernel
theorem d_NC_settled_46 : decode (yB Y_NC_settled) 46 = .ok (.getfield 167, 3) := by decide +kernel
theorem d_NC_settled_49 : decode (yB Y_NC_settled) 49 = .ok (.iload_n 1, 1) := by decide +kernel
theorem d_NC_settled_50 : decode (yB Y_NC_settled) 50 = .ok (.iaload, 1) := by decide +kernel
theorem d_NC_settled_51 : decode (yB Y_NC_settled) 51 = .ok (.iconst 2, 1) := by decide +kernel
theorem d_NC_settled_52 : decode (yB Y_NC_settled) 52 = .ok (.idiv, 1) := by decide +kernel
theorem d_NC_settled_53 : decode (yB Y_NC_settled) 53 = .ok (.isub, 1) := by decide +kernel
theorem d_NC_settled_54 : decode (yB Y_NC_settled) 54 = .ok (.aload_n 0, 1) := by decide +kernel
theorem d_NC_settled_55 : decode (yB Y_NC_settled) 55 = .ok (.getfield 12, 3) := by decide +kernel
theorem d_NC_settled_58 : decode (yB Y_NC_settled) 58 = .ok (.getfield 167, 3) := by decide +kernel
theorem d_NC_settled_61 : decode (yB Y_NC_settled) 61 = .ok (.iload_n 2, 1) := by decide +kernel
theorem d_NC_settled_62 : decode (yB Y_NC_settled) 62 = .ok (.iaload, 1) := by decide +kernel
theorem d_NC_settled_63 : decode (yB Y_NC_settled) 63 = .ok (.iconst 2, 1) := by decide +kernel
theorem d_NC_settled_64 : decode (yB Y_NC_settled) 64 = .ok (.idiv, 1) := by decide +kernel
theorem d_NC_settled_65 : decode (yB Y_NC_settled) 65 = .ok (.iadd, 1) := by decide +kernel
theorem d_NC_settled_66 : decode (yB Y_NC_settled) 66 = .ok (.ireturn, 1) := by decide +kernel
def F_NC_settled_b32 (n : Nat) (E : zE) (S : zS) (a0 : Nat) (x1 : Int32) (s0 : Int32) (M : zH) : Option (Int32 × zH) :=
  (zgR S a0 10 0).bind fun b_1 =>
  (zgR S b_1 3 4).bind fun b_2 =>
  (zldI S M b_2 x1).bind fun v_3 =>
  (zldI S M b_2 x1).bind fun v_4 =>
  (zdivI v_4 2).bind fun v_5 =>
  (zldI S M b_2 s0).bind fun v_6 =>
  (zdivI v_6 2).bind fun v_7 =>
  some ((v_3 - v_5) + v_7, M)
def F_NC_settled (n : Nat) (E : zE) (S : zS) (a0 : Nat) (x1 : Int32) (M : zH) : Option (Int32 × zH) :=
  (zgR S a0 10 0).bind fun b_8 =>
  (zck S b_8 3).bind fun u_9 =>
  (F_Ni_hasBucket n E S b_8 x1 M).bind fun q_10 =>
  if q_10.1 = true then
    if x1 = 0 then
      (zgI S q_10.2 b_8 3 11).bind fun v_13 =>
      F_NC_settled_b32 n E S a0 x1 (v_13 - 1) q_10.2
    else
      F_NC_settled_b32 n E S a0 x1 (x1 - 1) q_10.2
  else
    some ((-1), q_10.2)
theorem K_NC_settled_b32 (n : Nat) (E : zE) (S : zS) (a0 : Nat) (x1 : Int32) (s0 : Int32) (M : zH) (r : Int32) (M' : zH)  (h : F_NC_settled_b32 n E S a0 x1 s0 M = some (r, M')) : zG E Y_NC_settled (some (.int r), S, M') 32 [(0, .ref a0), (1, .int x1)] [.int s0] S M 0 0 := by
  unfold F_NC_settled_b32 at h
  refine zi_istore_n [(2, .int s0), (0, .ref a0), (1, .int x1)] d_NC_settled_32 (by decide) rfl ?_
  refine zi_aload_n 1 d_NC_settled_33 rfl ?_
  obtain ⟨b_1, eb_1, h⟩ := zbind h
  refine zo_getR 37 zkd_10 0 d_NC_settled_34 eb_1 rfl tw_332 rfl ?_
  obtain ⟨b_2, eb_2, h⟩ := zbind h
  refine zo_getR 40 zkd_3 4 d_NC_settled_37 eb_2 rfl tw_63 rfl ?_
  refine zi_iload_n 2 d_NC_settled_40 rfl ?_
  obtain ⟨v_3, ev_3, h⟩ := zbind h
  refine zo_iald 42 d_NC_settled_41 ev_3 rfl ?_
  refine zi_aload_n 1 d_NC_settled_42 rfl ?_
  refine zo_getR 46 zkd_10 0 d_NC_settled_43 eb_1 rfl tw_332 rfl ?_
  refine zo_getR 49 zkd_3 4 d_NC_settled_46 eb_2 rfl tw_63 rfl ?_
  refine zi_iload_n 2 d_NC_settled_49 rfl ?_
  obtain ⟨v_4, ev_4, h⟩ := zbind h
  refine zo_iald 51 d_NC_settled_50 ev_4 rfl ?_
  refine zi_iconst 2 d_NC_settled_51 rfl ?_
  obtain ⟨v_5, ev_5, h⟩ := zbind h
  refine zo_idiv 53 d_NC_settled_52 ev_5 rfl ?_
  refine zi_isub d_NC_settled_53 ?_
  refine zi_aload_n 1 d_NC_settled_54 rfl ?_
  refine zo_getR 58 zkd_10 0 d_NC_settled_55 eb_1 rfl tw_332 rfl ?_
  refine zo_getR 61 zkd_3 4 d_NC_settled_58 eb_2 rfl tw_63 rfl ?_
  refine zi_iload_n 0 d_NC_settled_61 rfl ?_
  obtain ⟨v_6, ev_6, h⟩ := zbind h
  refine zo_iald 63 d_NC_settled_62 ev_6 rfl ?_
  refine zi_iconst 2 d_NC_settled_63 rfl ?_
  obtain ⟨v_7, ev_7, h⟩ := zbind h
  refine zo_idiv 65 d_NC_settled_64 ev_7 rfl ?_
  refine zi_iadd d_NC_settled_65 ?_
  cases h
  exact zo_ret d_NC_settled_66 (Nat.le_of_ble_eq_true rfl) (Nat.le_of_ble_eq_true rfl) rfl
theorem K_NC_settled (n : Nat) (E : zE) (S : zS) (a0 : Nat) (x1 : Int32) (M : zH) (r : Int32) (M' : zH)  (h : F_NC_settled n E S a0 x1 M = some (r, M')) : zG E Y_NC_settled (some (.int r), S, M') 0 [(0, .ref a0), (1, .int x1)] [] S M 0 0 := by
  unfold F_NC_settled at h
  refine zi_aload_n 0 d_NC_settled_0 rfl ?_
  obtain ⟨b_8, eb_8, h⟩ := zbind h
  refine zo_getR 4 zkd_10 0 d_NC_settled_1 eb_8 rfl tw_332 rfl ?_
  refine zi_iload_n 1 d_NC_settled_4 rfl ?_
  obtain ⟨u_9, eu_9, h⟩ := zbind h
  obtain ⟨q_10, eq_10, h⟩ := zbind h
  refine zo_virt (k' := 0) (n' := 0) 8 [.int x1] [] [.int (bI q_10.1)] zkd_3 (zck_s eu_9) (C_Ni_hasBucket n E S b_8 x1 M q_10.1 q_10.2 eq_10) d_NC_settled_5 tw_481 tw_478 tw_479 tw_480 tw_2 dd_Ni_hasBucket ⟨Nat.le_of_ble_eq_true rfl, Nat.le_of_ble_eq_true rfl, Nat.le_of_ble_eq_true rfl, Nat.le_of_ble_eq_true rfl⟩ (Nat.le_of_ble_eq_true rfl) rfl rfl rfl rfl ?_
  refine zo_ifneB d_NC_settled_8 rfl 11 rfl (fun c_11 => ?_) (fun c_11 => ?_)
  · rw [if_pos c_11] at h
    refine zi_iload_n 1 d_NC_settled_13 rfl ?_
    refine zi_if_ne (tgt := 29) d_NC_settled_14 rfl (fun c_12 => ?_) (fun c_12 => ?_)
    · rw [if_neg c_12] at h
      refine zi_iload_n 1 d_NC_settled_29 rfl ?_
      refine zi_iconst 1 d_NC_settled_30 rfl ?_
      refine zi_isub d_NC_settled_31 ?_
      refine zi_lo [(0, .ref a0), (1, .int x1)] [0, 1] rfl ?_
      exact K_NC_settled_b32 n E S a0 x1 (x1 - 1) q_10.2 r M'  h
    · rw [if_pos c_12] at h
      refine zi_aload_n 0 d_NC_settled_17 rfl ?_
      refine zo_getR 21 zkd_10 0 d_NC_settled_18 eb_8 rfl tw_332 rfl ?_
      obtain ⟨v_13, ev_13, h⟩ := zbind h
      refine zo_getI 24 zkd_3 11 d_NC_settled_21 ev_13 rfl tw_87 rfl ?_
      refine zi_iconst 1 d_NC_settled_24 rfl ?_
      refine zi_isub d_NC_settled_25 ?_
      refine zi_goto (tgt := 32) d_NC_settled_26 rfl ?_
      refine zi_lo [(0, .ref a0), (1, .int x1)] [0, 1] rfl ?_
      exact K_NC_settled_b32 n E S a0 x1 (v_13 - 1) q_10.2 r M'  h
  · rw [if_neg c_11] at h
    refine zi_iconst (-1) d_NC_settled_11 rfl ?_
    cases h
    exact zo_ret d_NC_settled_12 (Nat.le_of_ble_eq_true rfl) (Nat.le_of_ble_eq_true rfl) rfl
theorem C_NC_settled (n : Nat) (E : zE) (S : zS) (a0 : Nat) (x1 : Int32) (M : zH) (r : Int32) (M' : zH) (h : F_NC_settled n E S a0 x1 M = some (r, M')) : zC E Y_NC_settled [.ref a0, .int x1] S M (some (.int r), S, M') :=
  zC.of (Or.inl (show plainName "NightColander" = true by decide)) (Nat.le_of_ble_eq_true rfl) (trivial) (K_NC_settled n E S a0 x1 M r M' h)
theorem d_Ja_fillJ_0 : decode (yB Y_Ja_fillJ) 0 = .ok (.iconst 0, 1) := by decide +kernel
theorem d_Ja_fillJ_1 : decode (yB Y_Ja_fillJ) 1 = .ok (.istore_n 3, 1) := by decide +kernel
theorem d_Ja_fillJ_2 : decode (yB Y_Ja_fillJ) 2 = .ok (.aload_n 0, 1) := by decide +kernel
theorem d_Ja_fillJ_3 : decode (yB Y_Ja_fillJ) 3 = .ok (.arraylength, 1) := by decide +kernel
theorem d_Ja_fillJ_4 : decode (yB Y_Ja_fillJ) 4 = .ok (.istore 4, 2) := by decide +kernel
theorem d_Ja_fillJ_6 : decode (yB Y_Ja_fillJ) 6 = .ok (.iload_n 3, 1) := by decide +kernel
theorem d_Ja_fillJ_7 : decode (yB Y_Ja_fillJ) 7 = .ok (.iload 4, 2) := by decide +kernel
theorem d_Ja_fillJ_9 : decode (yB Y_Ja_fillJ) 9 = .ok (.if_icmp .ge 13, 3) := by decide +kernel
theorem d_Ja_fillJ_12 : decode (yB Y_Ja_fillJ) 12 = .ok (.aload_n 0, 1) := by decide +kernel
theorem d_Ja_fillJ_13 : decode (yB Y_Ja_fillJ) 13 = .ok (.iload_n 3, 1) := by decide +kernel
theorem d_Ja_fillJ_14 : decode (yB Y_Ja_fillJ) 14 = .ok (.lload_n 1, 1) := by decide +kernel
theorem d_Ja_fillJ_15 : decode (yB Y_Ja_fillJ) 15 = .ok (.lastore, 1) := by decide +kernel
theorem d_Ja_fillJ_16 : decode (yB Y_Ja_fillJ) 16 = .ok (.iinc 3 1, 3) := by decide +kernel
theorem d_Ja_fillJ_19 : decode (yB Y_Ja_fillJ) 19 = .ok (.goto (-13), 3) := by decide +kernel
theorem d_Ja_fillJ_22 : decode (yB Y_Ja_fillJ) 22 = .ok (.return_, 1) := by decide +kernel
def F_Ja_fillJ_L6 (n : Nat) (E : zE) (S : zS) (r6 : Nat × Int64 × Int32 × Int32 × zH → Option (zH)) (a0 : Nat) (y1 : Int64) (x3 : Int32) (x4 : Int32) (M : zH) : Option (zH) :=
  if x4 ≤ x3 then
    some (M)
  else
    (zstJ S M a0 x3 y1).bind fun m_2 =>
    r6 (a0, y1, x3 + 1, x4, m_2)
def F_Ja_fillJ_b6 (n : Nat) (E : zE) (S : zS) : Nat × Int64 × Int32 × Int32 × zH → Option (zH) := zfix (fun r6 s => F_Ja_fillJ_L6 n E S r6 s.1 s.2.1 s.2.2.1 s.2.2.2.1 s.2.2.2.2) n
def F_Ja_fillJ (n : Nat) (E : zE) (S : zS) (a0 : Nat) (y1 : Int64) (M : zH) : Option (zH) :=
  (zlen S 15 a0).bind fun v_3 =>
  F_Ja_fillJ_b6 n E S (a0, y1, 0, v_3, M)
theorem K_Ja_fillJ_L6 (n : Nat) (E : zE) (S : zS) (r6 : Nat × Int64 × Int32 × Int32 × zH → Option (zH)) (a0 : Nat) (y1 : Int64) (x3 : Int32) (x4 : Int32) (M : zH) (M' : zH) (hr6 : ∀ (a0 : Nat) (y1 : Int64) (x3 : Int32) (x4 : Int32) (M : zH), r6 (a0, y1, x3, x4, M) = some M' → zG E Y_Ja_fillJ (none, S, M') 6 [(0, .ref a0), (1, .long y1), (3, .int x3), (4, .int x4)] [] S M 0 0) (h : F_Ja_fillJ_L6 n E S r6 a0 y1 x3 x4 M = some M') : zG E Y_Ja_fillJ (none, S, M') 6 [(0, .ref a0), (1, .long y1), (3, .int x3), (4, .int x4)] [] S M 0 0 := by
  unfold F_Ja_fillJ_L6 at h
  refine zi_iload_n 2 d_Ja_fillJ_6 rfl ?_
  refine zi_iload 3 d_Ja_fillJ_7 rfl ?_
  refine zi_icmp_ge (tgt := 22) d_Ja_fillJ_9 rfl (fun c_1 => ?_) (fun c_1 => ?_)
  · rw [if_pos c_1] at h
    cases h
    exact zo_ret d_Ja_fillJ_22 (Nat.le_of_ble_eq_true rfl) (Nat.le_of_ble_eq_true rfl) rfl
  · rw [if_neg c_1] at h
    refine zi_aload_n 0 d_Ja_fillJ_12 rfl ?_
    refine zi_iload_n 2 d_Ja_fillJ_13 rfl ?_
    refine zi_lload_n 1 d_Ja_fillJ_14 rfl ?_
    obtain ⟨m_2, em_2, h⟩ := zbind h
    refine zo_last 16 d_Ja_fillJ_15 em_2 rfl ?_
    refine zi_iinc 2 (x3 + 1) [(3, .int (x3 + 1)), (0, .ref a0), (1, .long y1), (4, .int x4)] d_Ja_fillJ_16 rfl rfl (by decide) rfl ?_
    refine zi_goto (tgt := 6) d_Ja_fillJ_19 rfl ?_
    refine zi_lo [(0, .ref a0), (1, .long y1), (3, .int (x3 + 1)), (4, .int x4)] [1, 2, 0, 3] rfl ?_
    exact hr6 a0 y1 (x3 + 1) x4 m_2 h
theorem K_Ja_fillJ_b6 (n : Nat) (E : zE) (S : zS) (a0 : Nat) (y1 : Int64) (x3 : Int32) (x4 : Int32) (M : zH) (M' : zH)  (h : F_Ja_fillJ_b6 n E S (a0, y1, x3, x4, M) = some M') : zG E Y_Ja_fillJ (none, S, M') 6 [(0, .ref a0), (1, .long y1), (3, .int x3), (4, .int x4)] [] S M 0 0 := by
  have key : ∀ (k : Nat) (a0 : Nat) (y1 : Int64) (x3 : Int32) (x4 : Int32) (M : zH), zfix (fun r6 s => F_Ja_fillJ_L6 n E S r6 s.1 s.2.1 s.2.2.1 s.2.2.2.1 s.2.2.2.2) k (a0, y1, x3, x4, M) = some M' → zG E Y_Ja_fillJ (none, S, M') 6 [(0, .ref a0), (1, .long y1), (3, .int x3), (4, .int x4)] [] S M 0 0 := by
    intro k
    induction k with
    | zero => intro a0 y1 x3 x4 M h; cases h
    | succ k ih => intro a0 y1 x3 x4 M h; exact K_Ja_fillJ_L6 n E S _ a0 y1 x3 x4 M M'  (fun a0 y1 x3 x4 M h => ih a0 y1 x3 x4 M h) h
  exact key n a0 y1 x3 x4 M h
theorem K_Ja_fillJ (n : Nat) (E : zE) (S : zS) (a0 : Nat) (y1 : Int64) (M : zH) (M' : zH)  (h : F_Ja_fillJ n E S a0 y1 M = some M') : zG E Y_Ja_fillJ (none, S, M') 0 [(0, .ref a0), (1, .long y1)] [] S M 0 0 := by
  unfold F_Ja_fillJ at h
  refine zi_iconst 0 d_Ja_fillJ_0 rfl ?_
  refine zi_istore_n [(3, .int 0), (0, .ref a0), (1, .long y1)] d_Ja_fillJ_1 (by decide) rfl ?_
  refine zi_aload_n 1 d_Ja_fillJ_2 rfl ?_
  obtain ⟨v_3, ev_3, h⟩ := zbind h
  refine zo_alen 4 d_Ja_fillJ_3 ev_3 (by decide) rfl ?_
  refine zi_istore [(4, .int v_3), (3, .int 0), (0, .ref a0), (1, .long y1)] d_Ja_fillJ_4 (by decide) rfl ?_
  refine zi_lo [(0, .ref a0), (1, .long y1), (3, .int 0), (4, .int v_3)] [2, 3, 1, 0] rfl ?_
  exact K_Ja_fillJ_b6 n E S a0 y1 0 v_3 M M'  h
theorem C_Ja_fillJ (n : Nat) (E : zE) (S : zS) (a0 : Nat) (y1 : Int64) (M : zH) (M' : zH) (h : F_Ja_fillJ n E S a0 y1 M = some M') : zC E Y_Ja_fillJ [.ref a0, .long y1] S M (none, S, M') :=
  zC.of (Or.inl (show plainName "java/util/Arrays" = true by decide)) (Nat.le_of_ble_eq_true rfl) (trivial) (K_Ja_fillJ n E S a0 y1 M M' h)
theorem d_Pa_chanceOfFew_0 : decode (yB Y_Pa_chanceOfFew) 0 = .ok (.aload_n 0, 1) := by decide +kernel
theorem d_Pa_chanceOfFew_1 : decode (yB Y_Pa_chanceOfFew) 1 = .ok (.getfield 34, 3) := by decide +kernel
theorem d_Pa_chanceOfFew_4 : decode (yB Y_Pa_chanceOfFew) 4 = .ok (.lconst 0, 1) := by decide +kernel
theorem d_Pa_chanceOfFew_5 : decode (yB Y_Pa_chanceOfFew) 5 = .ok (.invokestatic 182, 3) := by decide +kernel
theorem d_Pa_chanceOfFew_8 : decode (yB Y_Pa_chanceOfFew) 8 = .ok (.aload_n 0, 1) := by decide +kernel
theorem d_Pa_chanceOfFew_9 : decode (yB Y_Pa_chanceOfFew) 9 = .ok (.getfield 34, 3) := by decide +kernel
theorem d_Pa_chanceOfFew_12 : decode (yB Y_Pa_chanceOfFew) 12 = .ok (.iconst 0, 1) := by decide +kernel
theorem d_Pa_chanceOfFew_13 : decode (yB Y_Pa_chanceOfFew) 13 = .ok (.ldc2_w 185, 3) := by decide +kernel
theorem d_Pa_chanceOfFew_16 : decode (yB Y_Pa_chanceOfFew) 16 = .ok (.lastore, 1) := by decide +kernel
theorem d_Pa_chanceOfFew_17 : decode (yB Y_Pa_chanceOfFew) 17 = .ok (.iconst 0, 1) := by decide +kernel
theorem d_Pa_chanceOfFew_18 : decode (yB Y_Pa_chanceOfFew) 18 = .ok (.istore 4, 2) := by decide +kernel
theorem d_Pa_chanceOfFew_20 : decode (yB Y_Pa_chanceOfFew) 20 = .ok (.iload 4, 2) := by decide +kernel
theorem d_Pa_chanceOfFew_22 : decode (yB Y_Pa_chanceOfFew) 22 = .ok (.iload_n 2, 1) := by decide +kernel
theorem d_Pa_chanceOfFew_23 : decode (yB Y_Pa_chanceOfFew) 23 = .ok (.if_icmp .ge 83, 3) := by decide +kernel
theorem d_Pa_chanceOfFew_26 : decode (yB Y_Pa_chanceOfFew) 26 = .ok (.aload_n 0, 1) := by decide +kernel
theorem d_Pa_chanceOfFew_27 : decode (yB Y_Pa_chanceOfFew) 27 = .ok (.getfield 34, 3) := by decide +kernel
theorem d_Pa_chanceOfFew_30 : decode (yB Y_Pa_chanceOfFew) 30 = .ok (.arraylength, 1) := by decide +kernel
theorem d_Pa_chanceOfFew_31 : decode (yB Y_Pa_chanceOfFew) 31 = .ok (.iconst 1, 1) := by decide +kernel
theorem d_Pa_chanceOfFew_32 : decode (yB Y_Pa_chanceOfFew) 32 = .ok (.isub, 1) := by decide +kernel
theorem d_Pa_chanceOfFew_33 : decode (yB Y_Pa_chanceOfFew) 33 = .ok (.istore 5, 2) := by decide +kernel
theorem d_Pa_chanceOfFew_35 : decode (yB Y_Pa_chanceOfFew) 35 = .ok (.iload 5, 2) := by decide +kernel
theorem d_Pa_chanceOfFew_37 : decode (yB Y_Pa_chanceOfFew) 37 = .ok (.ifCond .lt 63, 3) := by decide +kernel
theorem d_Pa_chanceOfFew_40 : decode (yB Y_Pa_chanceOfFew) 40 = .ok (.iload 5, 2) := by decide +kernel
theorem d_Pa_chanceOfFew_42 : decode (yB Y_Pa_chanceOfFew) 42 = .ok (.ifCond .le 22, 3) := by decide +kernel
theorem d_Pa_chanceOfFew_45 : decode (yB Y_Pa_chanceOfFew) 45 = .ok (.aload_n 0, 1) := by decide +kernel
theorem d_Pa_chanceOfFew_46 : decode (yB Y_Pa_chanceOfFew) 46 = .ok (.getfield 34, 3) := by decide +kernel
theorem d_Pa_chanceOfFew_49 : decode (yB Y_Pa_chanceOfFew) 49 = .ok (.iload 5, 2) := by decide +kernel
theorem d_Pa_chanceOfFew_51 : decode (yB Y_Pa_chanceOfFew) 51 = .ok (.iconst 1, 1) := by decide +kernel
theorem d_Pa_chanceOfFew_52 : decode (yB Y_Pa_chanceOfFew) 52 = .ok (.isub, 1) := by decide +kernel
theorem d_Pa_chanceOfFew_53 : decode (yB Y_Pa_chanceOfFew) 53 = .ok (.laload, 1) := by decide +kernel
theorem d_Pa_chanceOfFew_54 : decode (yB Y_Pa_chanceOfFew) 54 = .ok (.iload_n 3, 1) := by decide +kernel
theorem d_Pa_chanceOfFew_55 : decode (yB Y_Pa_chanceOfFew) 55 = .ok (.i2l, 1) := by decide +kernel
theorem d_Pa_chanceOfFew_56 : decode (yB Y_Pa_chanceOfFew) 56 = .ok (.lmul, 1) := by decide +kernel
theorem d_Pa_chanceOfFew_57 : decode (yB Y_Pa_chanceOfFew) 57 = .ok (.ldc2_w 187, 3) := by decide +kernel
theorem d_Pa_chanceOfFew_60 : decode (yB Y_Pa_chanceOfFew) 60 = .ok (.ldiv, 1) := by decide +kernel
theorem d_Pa_chanceOfFew_61 : decode (yB Y_Pa_chanceOfFew) 61 = .ok (.goto 4, 3) := by decide +kernel
theorem d_Pa_chanceOfFew_64 : decode (yB Y_Pa_chanceOfFew) 64 = .ok (.lconst 0, 1) := by decide +kernel
theorem d_Pa_chanceOfFew_65 : decode (yB Y_Pa_chanceOfFew) 65 = .ok (.lstore 6, 2) := by decide +kernel
theorem d_Pa_chanceOfFew_67 : decode (yB Y_Pa_chanceOfFew) 67 = .ok (.aload_n 0, 1) := by decide +kernel
theorem d_Pa_chanceOfFew_68 : decode (yB Y_Pa_chanceOfFew) 68 = .ok (.getfield 34, 3) := by decide +kernel
theorem d_Pa_chanceOfFew_71 : decode (yB Y_Pa_chanceOfFew) 71 = .ok (.iload 5, 2) := by decide +kernel
theorem d_Pa_chanceOfFew_73 : decode (yB Y_Pa_chanceOfFew) 73 = .ok (.aload_n 0, 1) := by decide +kernel
theorem d_Pa_chanceOfFew_74 : decode (yB Y_Pa_chanceOfFew) 74 = .ok (.getfield 34, 3) := by decide +kernel
theorem d_Pa_chanceOfFew_77 : decode (yB Y_Pa_chanceOfFew) 77 = .ok (.iload 5, 2) := by decide +kernel
theorem d_Pa_chanceOfFew_79 : decode (yB Y_Pa_chanceOfFew) 79 = .ok (.laload, 1) := by decide +kernel
theorem d_Pa_chanceOfFew_80 : decode (yB Y_Pa_chanceOfFew) 80 = .ok (.bipush 10, 2) := by decide +kernel
theorem d_Pa_chanceOfFew_82 : decode (yB Y_Pa_chanceOfFew) 82 = .ok (.iload_n 3, 1) := by decide +kernel
theorem d_Pa_chanceOfFew_83 : decode (yB Y_Pa_chanceOfFew) 83 = .ok (.isub, 1) := by decide +kernel
theorem d_Pa_chanceOfFew_84 : decode (yB Y_Pa_chanceOfFew) 84 = .ok (.i2l, 1) := by decide +kernel
theorem d_Pa_chanceOfFew_85 : decode (yB Y_Pa_chanceOfFew) 85 = .ok (.lmul, 1) := by decide +kernel
theorem d_Pa_chanceOfFew_86 : decode (yB Y_Pa_chanceOfFew) 86 = .ok (.ldc2_w 187, 3) := by decide +kernel
theorem d_Pa_chanceOfFew_89 : decode (yB Y_Pa_chanceOfFew) 89 = .ok (.ldiv, 1) := by decide +kernel
theorem d_Pa_chanceOfFew_90 : decode (yB Y_Pa_chanceOfFew) 90 = .ok (.lload 6, 2) := by decide +kernel
theorem d_Pa_chanceOfFew_92 : decode (yB Y_Pa_chanceOfFew) 92 = .ok (.ladd, 1) := by decide +kernel
theorem d_Pa_chanceOfFew_93 : decode (yB Y_Pa_chanceOfFew) 93 = .ok (.lastore, 1) := by decide +kernel
theorem d_Pa_chanceOfFew_94 : decode (yB Y_Pa_chanceOfFew) 94 = .ok (.iinc 5 (-1), 3) := by decide +kernel
theorem d_Pa_chanceOfFew_97 : decode (yB Y_Pa_chanceOfFew) 97 = .ok (.goto (-62), 3) := by decide +kernel
theorem d_Pa_chanceOfFew_100 : decode (yB Y_Pa_chanceOfFew) 100 = .ok (.iinc 4 1, 3) := by decide +kernel
theorem d_Pa_chanceOfFew_103 : decode (yB Y_Pa_chanceOfFew) 103 = .ok (.goto (-83), 3) := by decide +kernel
theorem d_Pa_chanceOfFew_106 : decode (yB Y_Pa_chanceOfFew) 106 = .ok (.lconst 0, 1) := by decide +kernel
theorem d_Pa_chanceOfFew_107 : decode (yB Y_Pa_chanceOfFew) 107 = .ok (.lstore 4, 2) := by decide +kernel
theorem d_Pa_chanceOfFew_109 : decode (yB Y_Pa_chanceOfFew) 109 = .ok (.iconst 0, 1) := by decide +kernel
theorem d_Pa_chanceOfFew_110 : decode (yB Y_Pa_chanceOfFew) 110 = .ok (.istore 6, 2) := by decide +kernel
theorem d_Pa_chanceOfFew_112 : decode (yB Y_Pa_chanceOfFew) 112 = .ok (.iload 6, 2) := by decide +kernel
theorem d_Pa_chanceOfFew_114 : decode (yB Y_Pa_chanceOfFew) 114 = .ok (.iload_n 1, 1) := by decide +kernel
theorem d_Pa_chanceOfFew_115 : decode (yB Y_Pa_chanceOfFew) 115 = .ok (.if_icmp .ge 31, 3) := by decide +kernel
theorem d_Pa_chanceOfFew_118 : decode (yB Y_Pa_chanceOfFew) 118 = .ok (.iload 6, 2) := by decide +kernel
theorem d_Pa_chanceOfFew_120 : decode (yB Y_Pa_chanceOfFew) 120 = .ok (.aload_n 0, 1) := by decide +kernel
theorem d_Pa_chanceOfFew_121 : decode (yB Y_Pa_chanceOfFew) 121 = .ok (.getfield 34, 3) := by decide +kernel
theorem d_Pa_chanceOfFew_124 : decode (yB Y_Pa_chanceOfFew) 124 = .ok (.arraylength, 1) := by decide +kernel
theorem d_Pa_chanceOfFew_125 : decode (yB Y_Pa_chanceOfFew) 125 = .ok (.if_icmp .ge 21, 3) := by decide +kernel
theorem d_Pa_chanceOfFew_128 : decode (yB Y_Pa_chanceOfFew) 128 = .ok (.lload 4, 2) := by decide +kernel
theorem d_Pa_chanceOfFew_130 : decode (yB Y_Pa_chanceOfFew) 130 = .ok (.aload_n 0, 1) := by decide +kernel
theorem d_Pa_chanceOfFew_131 : decode (yB Y_Pa_chanceOfFew) 131 = .ok (.getfield 34, 3) := by decide +kernel
theorem d_Pa_chanceOfFew_134 : decode (yB Y_Pa_chanceOfFew) 134 = .ok (.iload 6, 2) := by decide +kernel
theorem d_Pa_chanceOfFew_136 : decode (yB Y_Pa_chanceOfFew) 136 = .ok (.laload, 1) := by decide +kernel
theorem d_Pa_chanceOfFew_137 : decode (yB Y_Pa_chanceOfFew) 137 = .ok (.ladd, 1) := by decide +kernel
theorem d_Pa_chanceOfFew_138 : decode (yB Y_Pa_chanceOfFew) 138 = .ok (.lstore 4, 2) := by decide +kernel
theorem d_Pa_chanceOfFew_140 : decode (yB Y_Pa_chanceOfFew) 140 = .ok (.iinc 6 1, 3) := by decide +kernel
theorem d_Pa_chanceOfFew_143 : decode (yB Y_Pa_chanceOfFew) 143 = .ok (.goto (-31), 3) := by decide +kernel
theorem d_Pa_chanceOfFew_146 : decode (yB Y_Pa_chanceOfFew) 146 = .ok (.lload 4, 2) := by decide +kernel
theorem d_Pa_chanceOfFew_148 : decode (yB Y_Pa_chanceOfFew) 148 = .ok (.lreturn, 1) := by decide +kernel
def F_Pa_chanceOfFew_b65 (n : Nat) (E : zE) (S : zS) (r20 : Nat × Int32 × Int32 × Int32 × Int32 × zH → Option (Int64 × zH)) (r35 : Nat × Int32 × Int32 × Int32 × Int32 × Int32 × zH → Option (Int64 × zH)) (a0 : Nat) (x1 : Int32) (x2 : Int32) (x3 : Int32) (x4 : Int32) (x5 : Int32) (t0 : Int64) (M : zH) : Option (Int64 × zH) :=
  (zgR S a0 4 7).bind fun b_1 =>
  (zldJ S M b_1 x5).bind fun v_2 =>
  (zdivJ (v_2 * ((10 - x3).toInt64)) 10).bind fun v_3 =>
  (zstJ S M b_1 x5 (v_3 + t0)).bind fun m_4 =>
  r35 (a0, x1, x2, x3, x4, x5 + (-1), m_4)
def F_Pa_chanceOfFew_L35 (n : Nat) (E : zE) (S : zS) (r20 : Nat × Int32 × Int32 × Int32 × Int32 × zH → Option (Int64 × zH)) (r35 : Nat × Int32 × Int32 × Int32 × Int32 × Int32 × zH → Option (Int64 × zH)) (a0 : Nat) (x1 : Int32) (x2 : Int32) (x3 : Int32) (x4 : Int32) (x5 : Int32) (M : zH) : Option (Int64 × zH) :=
  if x5 < 0 then
    r20 (a0, x1, x2, x3, x4 + 1, M)
  else
    if x5 ≤ 0 then
      F_Pa_chanceOfFew_b65 n E S r20 r35 a0 x1 x2 x3 x4 x5 0 M
    else
      (zgR S a0 4 7).bind fun b_7 =>
      (zldJ S M b_7 (x5 - 1)).bind fun v_8 =>
      (zdivJ (v_8 * x3.toInt64) 10).bind fun v_9 =>
      F_Pa_chanceOfFew_b65 n E S r20 r35 a0 x1 x2 x3 x4 x5 v_9 M
def F_Pa_chanceOfFew_b35 (n : Nat) (E : zE) (S : zS) (r20 : Nat × Int32 × Int32 × Int32 × Int32 × zH → Option (Int64 × zH)) : Nat × Int32 × Int32 × Int32 × Int32 × Int32 × zH → Option (Int64 × zH) := zfix (fun r35 s => F_Pa_chanceOfFew_L35 n E S r20 r35 s.1 s.2.1 s.2.2.1 s.2.2.2.1 s.2.2.2.2.1 s.2.2.2.2.2.1 s.2.2.2.2.2.2) n
def F_Pa_chanceOfFew_L112 (n : Nat) (E : zE) (S : zS) (r112 : Nat × Int32 × Int64 × Int32 × zH → Option (Int64 × zH)) (a0 : Nat) (x1 : Int32) (y4 : Int64) (x6 : Int32) (M : zH) : Option (Int64 × zH) :=
  if x1 ≤ x6 then
    some (y4, M)
  else
    (zgR S a0 4 7).bind fun b_11 =>
    (zlen S 15 b_11).bind fun v_12 =>
    if v_12 ≤ x6 then
      some (y4, M)
    else
      (zldJ S M b_11 x6).bind fun v_14 =>
      r112 (a0, x1, y4 + v_14, x6 + 1, M)
def F_Pa_chanceOfFew_b112 (n : Nat) (E : zE) (S : zS) : Nat × Int32 × Int64 × Int32 × zH → Option (Int64 × zH) := zfix (fun r112 s => F_Pa_chanceOfFew_L112 n E S r112 s.1 s.2.1 s.2.2.1 s.2.2.2.1 s.2.2.2.2) n
def F_Pa_chanceOfFew_L20 (n : Nat) (E : zE) (S : zS) (r20 : Nat × Int32 × Int32 × Int32 × Int32 × zH → Option (Int64 × zH)) (a0 : Nat) (x1 : Int32) (x2 : Int32) (x3 : Int32) (x4 : Int32) (M : zH) : Option (Int64 × zH) :=
  if x2 ≤ x4 then
    F_Pa_chanceOfFew_b112 n E S (a0, x1, 0, 0, M)
  else
    (zgR S a0 4 7).bind fun b_16 =>
    (zlen S 15 b_16).bind fun v_17 =>
    F_Pa_chanceOfFew_b35 n E S r20 (a0, x1, x2, x3, x4, v_17 - 1, M)
def F_Pa_chanceOfFew_b20 (n : Nat) (E : zE) (S : zS) : Nat × Int32 × Int32 × Int32 × Int32 × zH → Option (Int64 × zH) := zfix (fun r20 s => F_Pa_chanceOfFew_L20 n E S r20 s.1 s.2.1 s.2.2.1 s.2.2.2.1 s.2.2.2.2.1 s.2.2.2.2.2) n
def F_Pa_chanceOfFew (n : Nat) (E : zE) (S : zS) (a0 : Nat) (x1 : Int32) (x2 : Int32) (x3 : Int32) (M : zH) : Option (Int64 × zH) :=
  (zgR S a0 4 7).bind fun b_18 =>
  (F_Ja_fillJ n E S b_18 0 M).bind fun q_19 =>
  (zstJ S q_19 b_18 0 1000000000000).bind fun m_20 =>
  F_Pa_chanceOfFew_b20 n E S (a0, x1, x2, x3, 0, m_20)
theorem K_Pa_chanceOfFew_b65 (n : Nat) (E : zE) (S : zS) (r20 : Nat × Int32 × Int32 × Int32 × Int32 × zH → Option (Int64 × zH)) (r35 : Nat × Int32 × Int32 × Int32 × Int32 × Int32 × zH → Option (Int64 × zH)) (a0 : Nat) (x1 : Int32) (x2 : Int32) (x3 : Int32) (x4 : Int32) (x5 : Int32) (t0 : Int64) (M : zH) (r : Int64) (M' : zH) (hr20 : ∀ (a0 : Nat) (x1 : Int32) (x2 : Int32) (x3 : Int32) (x4 : Int32) (M : zH), r20 (a0, x1, x2, x3, x4, M) = some (r, M') → zG E Y_Pa_chanceOfFew (some (.long r), S, M') 20 [(0, .ref a0), (1, .int x1), (2, .int x2), (3, .int x3), (4, .int x4)] [] S M 0 0) (hr35 : ∀ (a0 : Nat) (x1 : Int32) (x2 : Int32) (x3 : Int32) (x4 : Int32) (x5 : Int32) (M : zH), r35 (a0, x1, x2, x3, x4, x5, M) = some (r, M') → zG E Y_Pa_chanceOfFew (some (.long r), S, M') 35 [(0, .ref a0), (1, .int x1), (2, .int x2), (3, .int x3), (4, .int x4), (5, .int x5)] [] S M 0 0) (h : F_Pa_chanceOfFew_b65 n E S r20 r35 a0 x1 x2 x3 x4 x5 t0 M = some (r, M')) : zG E Y_Pa_chanceOfFew (some (.long r), S, M') 65 [(0, .ref a0), (1, .int x1), (2, .int x2), (3, .int x3), (4, .int x4), (5, .int x5)] [.long t0] S M 0 0 := by
  unfold F_Pa_chanceOfFew_b65 at h
  refine zi_lstore [(6, .long t0), (0, .ref a0), (1, .int x1), (2, .int x2), (3, .int x3), (4, .int x4), (5, .int x5)] d_Pa_chanceOfFew_65 (by decide) rfl ?_
  refine zi_aload_n 1 d_Pa_chanceOfFew_67 rfl ?_
  obtain ⟨b_1, eb_1, h⟩ := zbind h
  refine zo_getR 71 zkd_4 7 d_Pa_chanceOfFew_68 eb_1 rfl tw_305 rfl ?_
  refine zi_iload 6 d_Pa_chanceOfFew_71 rfl ?_
  refine zi_aload_n 1 d_Pa_chanceOfFew_73 rfl ?_
  refine zo_getR 77 zkd_4 7 d_Pa_chanceOfFew_74 eb_1 rfl tw_305 rfl ?_
  refine zi_iload 6 d_Pa_chanceOfFew_77 rfl ?_
  obtain ⟨v_2, ev_2, h⟩ := zbind h
  refine zo_lald 80 d_Pa_chanceOfFew_79 ev_2 rfl ?_
  refine zi_bipush 10 d_Pa_chanceOfFew_80 rfl ?_
  refine zi_iload_n 4 d_Pa_chanceOfFew_82 rfl ?_
  refine zi_isub d_Pa_chanceOfFew_83 ?_
  refine zi_i2l d_Pa_chanceOfFew_84 ?_
  refine zi_lmul d_Pa_chanceOfFew_85 ?_
  refine zi_ldc2 d_Pa_chanceOfFew_86 tw_1146 ?_
  obtain ⟨v_3, ev_3, h⟩ := zbind h
  refine zo_ldiv 90 d_Pa_chanceOfFew_89 ev_3 rfl ?_
  refine zi_lload 0 d_Pa_chanceOfFew_90 rfl ?_
  refine zi_ladd d_Pa_chanceOfFew_92 ?_
  obtain ⟨m_4, em_4, h⟩ := zbind h
  refine zo_last 94 d_Pa_chanceOfFew_93 em_4 rfl ?_
  refine zi_iinc 6 (x5 + (-1)) [(5, .int (x5 + (-1))), (6, .long t0), (0, .ref a0), (1, .int x1), (2, .int x2), (3, .int x3), (4, .int x4)] d_Pa_chanceOfFew_94 rfl rfl (by decide) rfl ?_
  refine zi_goto (tgt := 35) d_Pa_chanceOfFew_97 rfl ?_
  refine zi_lo [(0, .ref a0), (1, .int x1), (2, .int x2), (3, .int x3), (4, .int x4), (5, .int (x5 + (-1)))] [2, 3, 4, 5, 6, 0] rfl ?_
  exact hr35 a0 x1 x2 x3 x4 (x5 + (-1)) m_4 h
theorem K_Pa_chanceOfFew_L35 (n : Nat) (E : zE) (S : zS) (r20 : Nat × Int32 × Int32 × Int32 × Int32 × zH → Option (Int64 × zH)) (r35 : Nat × Int32 × Int32 × Int32 × Int32 × Int32 × zH → Option (Int64 × zH)) (a0 : Nat) (x1 : Int32) (x2 : Int32) (x3 : Int32) (x4 : Int32) (x5 : Int32) (M : zH) (r : Int64) (M' : zH) (hr20 : ∀ (a0 : Nat) (x1 : Int32) (x2 : Int32) (x3 : Int32) (x4 : Int32) (M : zH), r20 (a0, x1, x2, x3, x4, M) = some (r, M') → zG E Y_Pa_chanceOfFew (some (.long r), S, M') 20 [(0, .ref a0), (1, .int x1), (2, .int x2), (3, .int x3), (4, .int x4)] [] S M 0 0) (hr35 : ∀ (a0 : Nat) (x1 : Int32) (x2 : Int32) (x3 : Int32) (x4 : Int32) (x5 : Int32) (M : zH), r35 (a0, x1, x2, x3, x4, x5, M) = some (r, M') → zG E Y_Pa_chanceOfFew (some (.long r), S, M') 35 [(0, .ref a0), (1, .int x1), (2, .int x2), (3, .int x3), (4, .int x4), (5, .int x5)] [] S M 0 0) (h : F_Pa_chanceOfFew_L35 n E S r20 r35 a0 x1 x2 x3 x4 x5 M = some (r, M')) : zG E Y_Pa_chanceOfFew (some (.long r), S, M') 35 [(0, .ref a0), (1, .int x1), (2, .int x2), (3, .int x3), (4, .int x4), (5, .int x5)] [] S M 0 0 := by
  unfold F_Pa_chanceOfFew_L35 at h
  refine zi_iload 5 d_Pa_chanceOfFew_35 rfl ?_
  refine zi_if_lt (tgt := 100) d_Pa_chanceOfFew_37 rfl (fun c_5 => ?_) (fun c_5 => ?_)
  · rw [if_pos c_5] at h
    refine zi_iinc 4 (x4 + 1) [(4, .int (x4 + 1)), (0, .ref a0), (1, .int x1), (2, .int x2), (3, .int x3), (5, .int x5)] d_Pa_chanceOfFew_100 rfl rfl (by decide) rfl ?_
    refine zi_goto (tgt := 20) d_Pa_chanceOfFew_103 rfl ?_
    refine zi_lo [(0, .ref a0), (1, .int x1), (2, .int x2), (3, .int x3), (4, .int (x4 + 1))] [1, 2, 3, 4, 0] rfl ?_
    exact hr20 a0 x1 x2 x3 (x4 + 1) M h
  · rw [if_neg c_5] at h
    refine zi_iload 5 d_Pa_chanceOfFew_40 rfl ?_
    refine zi_if_le (tgt := 64) d_Pa_chanceOfFew_42 rfl (fun c_6 => ?_) (fun c_6 => ?_)
    · rw [if_pos c_6] at h
      refine zi_lconst 0 d_Pa_chanceOfFew_64 rfl ?_
      refine zi_lo [(0, .ref a0), (1, .int x1), (2, .int x2), (3, .int x3), (4, .int x4), (5, .int x5)] [0, 1, 2, 3, 4, 5] rfl ?_
      exact K_Pa_chanceOfFew_b65 n E S r20 r35 a0 x1 x2 x3 x4 x5 0 M r M' hr20 hr35 h
    · rw [if_neg c_6] at h
      refine zi_aload_n 0 d_Pa_chanceOfFew_45 rfl ?_
      obtain ⟨b_7, eb_7, h⟩ := zbind h
      refine zo_getR 49 zkd_4 7 d_Pa_chanceOfFew_46 eb_7 rfl tw_305 rfl ?_
      refine zi_iload 5 d_Pa_chanceOfFew_49 rfl ?_
      refine zi_iconst 1 d_Pa_chanceOfFew_51 rfl ?_
      refine zi_isub d_Pa_chanceOfFew_52 ?_
      obtain ⟨v_8, ev_8, h⟩ := zbind h
      refine zo_lald 54 d_Pa_chanceOfFew_53 ev_8 rfl ?_
      refine zi_iload_n 3 d_Pa_chanceOfFew_54 rfl ?_
      refine zi_i2l d_Pa_chanceOfFew_55 ?_
      refine zi_lmul d_Pa_chanceOfFew_56 ?_
      refine zi_ldc2 d_Pa_chanceOfFew_57 tw_1146 ?_
      obtain ⟨v_9, ev_9, h⟩ := zbind h
      refine zo_ldiv 61 d_Pa_chanceOfFew_60 ev_9 rfl ?_
      refine zi_goto (tgt := 65) d_Pa_chanceOfFew_61 rfl ?_
      refine zi_lo [(0, .ref a0), (1, .int x1), (2, .int x2), (3, .int x3), (4, .int x4), (5, .int x5)] [0, 1, 2, 3, 4, 5] rfl ?_
      exact K_Pa_chanceOfFew_b65 n E S r20 r35 a0 x1 x2 x3 x4 x5 v_9 M r M' hr20 hr35 h
theorem K_Pa_chanceOfFew_b35 (n : Nat) (E : zE) (S : zS) (r20 : Nat × Int32 × Int32 × Int32 × Int32 × zH → Option (Int64 × zH)) (a0 : Nat) (x1 : Int32) (x2 : Int32) (x3 : Int32) (x4 : Int32) (x5 : Int32) (M : zH) (r : Int64) (M' : zH) (hr20 : ∀ (a0 : Nat) (x1 : Int32) (x2 : Int32) (x3 : Int32) (x4 : Int32) (M : zH), r20 (a0, x1, x2, x3, x4, M) = some (r, M') → zG E Y_Pa_chanceOfFew (some (.long r), S, M') 20 [(0, .ref a0), (1, .int x1), (2, .int x2), (3, .int x3), (4, .int x4)] [] S M 0 0) (h : F_Pa_chanceOfFew_b35 n E S r20 (a0, x1, x2, x3, x4, x5, M) = some (r, M')) : zG E Y_Pa_chanceOfFew (some (.long r), S, M') 35 [(0, .ref a0), (1, .int x1), (2, .int x2), (3, .int x3), (4, .int x4), (5, .int x5)] [] S M 0 0 := by
  have key : ∀ (k : Nat) (a0 : Nat) (x1 : Int32) (x2 : Int32) (x3 : Int32) (x4 : Int32) (x5 : Int32) (M : zH), zfix (fun r35 s => F_Pa_chanceOfFew_L35 n E S r20 r35 s.1 s.2.1 s.2.2.1 s.2.2.2.1 s.2.2.2.2.1 s.2.2.2.2.2.1 s.2.2.2.2.2.2) k (a0, x1, x2, x3, x4, x5, M) = some (r, M') → zG E Y_Pa_chanceOfFew (some (.long r), S, M') 35 [(0, .ref a0), (1, .int x1), (2, .int x2), (3, .int x3), (4, .int x4), (5, .int x5)] [] S M 0 0 := by
    intro k
    induction k with
    | zero => intro a0 x1 x2 x3 x4 x5 M h; cases h
    | succ k ih => intro a0 x1 x2 x3 x4 x5 M h; exact K_Pa_chanceOfFew_L35 n E S r20 _ a0 x1 x2 x3 x4 x5 M r M' hr20 (fun a0 x1 x2 x3 x4 x5 M h => ih a0 x1 x2 x3 x4 x5 M h) h
  exact key n a0 x1 x2 x3 x4 x5 M h
theorem K_Pa_chanceOfFew_L112 (n : Nat) (E : zE) (S : zS) (r112 : Nat × Int32 × Int64 × Int32 × zH → Option (Int64 × zH)) (a0 : Nat) (x1 : Int32) (y4 : Int64) (x6 : Int32) (M : zH) (r : Int64) (M' : zH) (hr112 : ∀ (a0 : Nat) (x1 : Int32) (y4 : Int64) (x6 : Int32) (M : zH), r112 (a0, x1, y4, x6, M) = some (r, M') → zG E Y_Pa_chanceOfFew (some (.long r), S, M') 112 [(0, .ref a0), (1, .int x1), (4, .long y4), (6, .int x6)] [] S M 0 0) (h : F_Pa_chanceOfFew_L112 n E S r112 a0 x1 y4 x6 M = some (r, M')) : zG E Y_Pa_chanceOfFew (some (.long r), S, M') 112 [(0, .ref a0), (1, .int x1), (4, .long y4), (6, .int x6)] [] S M 0 0 := by
  unfold F_Pa_chanceOfFew_L112 at h
  refine zi_iload 3 d_Pa_chanceOfFew_112 rfl ?_
  refine zi_iload_n 1 d_Pa_chanceOfFew_114 rfl ?_
  refine zi_icmp_ge (tgt := 146) d_Pa_chanceOfFew_115 rfl (fun c_10 => ?_) (fun c_10 => ?_)
  · rw [if_pos c_10] at h
    refine zi_lload 2 d_Pa_chanceOfFew_146 rfl ?_
    cases h
    exact zo_ret d_Pa_chanceOfFew_148 (Nat.le_of_ble_eq_true rfl) (Nat.le_of_ble_eq_true rfl) rfl
  · rw [if_neg c_10] at h
    refine zi_iload 3 d_Pa_chanceOfFew_118 rfl ?_
    refine zi_aload_n 0 d_Pa_chanceOfFew_120 rfl ?_
    obtain ⟨b_11, eb_11, h⟩ := zbind h
    refine zo_getR 124 zkd_4 7 d_Pa_chanceOfFew_121 eb_11 rfl tw_305 rfl ?_
    obtain ⟨v_12, ev_12, h⟩ := zbind h
    refine zo_alen 125 d_Pa_chanceOfFew_124 ev_12 (by decide) rfl ?_
    refine zi_icmp_ge (tgt := 146) d_Pa_chanceOfFew_125 rfl (fun c_13 => ?_) (fun c_13 => ?_)
    · rw [if_pos c_13] at h
      refine zi_lload 2 d_Pa_chanceOfFew_146 rfl ?_
      cases h
      exact zo_ret d_Pa_chanceOfFew_148 (Nat.le_of_ble_eq_true rfl) (Nat.le_of_ble_eq_true rfl) rfl
    · rw [if_neg c_13] at h
      refine zi_lload 2 d_Pa_chanceOfFew_128 rfl ?_
      refine zi_aload_n 0 d_Pa_chanceOfFew_130 rfl ?_
      refine zo_getR 134 zkd_4 7 d_Pa_chanceOfFew_131 eb_11 rfl tw_305 rfl ?_
      refine zi_iload 3 d_Pa_chanceOfFew_134 rfl ?_
      obtain ⟨v_14, ev_14, h⟩ := zbind h
      refine zo_lald 137 d_Pa_chanceOfFew_136 ev_14 rfl ?_
      refine zi_ladd d_Pa_chanceOfFew_137 ?_
      refine zi_lstore [(4, .long (y4 + v_14)), (0, .ref a0), (1, .int x1), (6, .int x6)] d_Pa_chanceOfFew_138 (by decide) rfl ?_
      refine zi_iinc 3 (x6 + 1) [(6, .int (x6 + 1)), (4, .long (y4 + v_14)), (0, .ref a0), (1, .int x1)] d_Pa_chanceOfFew_140 rfl rfl (by decide) rfl ?_
      refine zi_goto (tgt := 112) d_Pa_chanceOfFew_143 rfl ?_
      refine zi_lo [(0, .ref a0), (1, .int x1), (4, .long (y4 + v_14)), (6, .int (x6 + 1))] [2, 3, 1, 0] rfl ?_
      exact hr112 a0 x1 (y4 + v_14) (x6 + 1) M h
theorem K_Pa_chanceOfFew_b112 (n : Nat) (E : zE) (S : zS) (a0 : Nat) (x1 : Int32) (y4 : Int64) (x6 : Int32) (M : zH) (r : Int64) (M' : zH)  (h : F_Pa_chanceOfFew_b112 n E S (a0, x1, y4, x6, M) = some (r, M')) : zG E Y_Pa_chanceOfFew (some (.long r), S, M') 112 [(0, .ref a0), (1, .int x1), (4, .long y4), (6, .int x6)] [] S M 0 0 := by
  have key : ∀ (k : Nat) (a0 : Nat) (x1 : Int32) (y4 : Int64) (x6 : Int32) (M : zH), zfix (fun r112 s => F_Pa_chanceOfFew_L112 n E S r112 s.1 s.2.1 s.2.2.1 s.2.2.2.1 s.2.2.2.2) k (a0, x1, y4, x6, M) = some (r, M') → zG E Y_Pa_chanceOfFew (some (.long r), S, M') 112 [(0, .ref a0), (1, .int x1), (4, .long y4), (6, .int x6)] [] S M 0 0 := by
    intro k
    induction k with
    | zero => intro a0 x1 y4 x6 M h; cases h
    | succ k ih => intro a0 x1 y4 x6 M h; exact K_Pa_chanceOfFew_L112 n E S _ a0 x1 y4 x6 M r M'  (fun a0 x1 y4 x6 M h => ih a0 x1 y4 x6 M h) h
  exact key n a0 x1 y4 x6 M h
theorem K_Pa_chanceOfFew_L20 (n : Nat) (E : zE) (S : zS) (r20 : Nat × Int32 × Int32 × Int32 × Int32 × zH → Option (Int64 × zH)) (a0 : Nat) (x1 : Int32) (x2 : Int32) (x3 : Int32) (x4 : Int32) (M : zH) (r : Int64) (M' : zH) (hr20 : ∀ (a0 : Nat) (x1 : Int32) (x2 : Int32) (x3 : Int32) (x4 : Int32) (M : zH), r20 (a0, x1, x2, x3, x4, M) = some (r, M') → zG E Y_Pa_chanceOfFew (some (.long r), S, M') 20 [(0, .ref a0), (1, .int x1), (2, .int x2), (3, .int x3), (4, .int x4)] [] S M 0 0) (h : F_Pa_chanceOfFew_L20 n E S r20 a0 x1 x2 x3 x4 M = some (r, M')) : zG E Y_Pa_chanceOfFew (some (.long r), S, M') 20 [(0, .ref a0), (1, .int x1), (2, .int x2), (3, .int x3), (4, .int x4)] [] S M 0 0 := by
  unfold F_Pa_chanceOfFew_L20 at h
  refine zi_iload 4 d_Pa_chanceOfFew_20 rfl ?_
  refine zi_iload_n 2 d_Pa_chanceOfFew_22 rfl ?_
  refine zi_icmp_ge (tgt := 106) d_Pa_chanceOfFew_23 rfl (fun c_15 => ?_) (fun c_15 => ?_)
  · rw [if_pos c_15] at h
    refine zi_lconst 0 d_Pa_chanceOfFew_106 rfl ?_
    refine zi_lstore [(4, .long 0), (0, .ref a0), (1, .int x1), (2, .int x2), (3, .int x3)] d_Pa_chanceOfFew_107 (by decide) rfl ?_
    refine zi_iconst 0 d_Pa_chanceOfFew_109 rfl ?_
    refine zi_istore [(6, .int 0), (4, .long 0), (0, .ref a0), (1, .int x1), (2, .int x2), (3, .int x3)] d_Pa_chanceOfFew_110 (by decide) rfl ?_
    refine zi_lo [(0, .ref a0), (1, .int x1), (4, .long 0), (6, .int 0)] [2, 3, 1, 0] rfl ?_
    exact K_Pa_chanceOfFew_b112 n E S a0 x1 0 0 M r M'  h
  · rw [if_neg c_15] at h
    refine zi_aload_n 0 d_Pa_chanceOfFew_26 rfl ?_
    obtain ⟨b_16, eb_16, h⟩ := zbind h
    refine zo_getR 30 zkd_4 7 d_Pa_chanceOfFew_27 eb_16 rfl tw_305 rfl ?_
    obtain ⟨v_17, ev_17, h⟩ := zbind h
    refine zo_alen 31 d_Pa_chanceOfFew_30 ev_17 (by decide) rfl ?_
    refine zi_iconst 1 d_Pa_chanceOfFew_31 rfl ?_
    refine zi_isub d_Pa_chanceOfFew_32 ?_
    refine zi_istore [(5, .int (v_17 - 1)), (0, .ref a0), (1, .int x1), (2, .int x2), (3, .int x3), (4, .int x4)] d_Pa_chanceOfFew_33 (by decide) rfl ?_
    refine zi_lo [(0, .ref a0), (1, .int x1), (2, .int x2), (3, .int x3), (4, .int x4), (5, .int (v_17 - 1))] [1, 2, 3, 4, 5, 0] rfl ?_
    exact K_Pa_chanceOfFew_b35 n E S r20 a0 x1 x2 x3 x4 (v_17 - 1) M r M' hr20 h
theorem K_Pa_chanceOfFew_b20 (n : Nat) (E : zE) (S : zS) (a0 : Nat) (x1 : Int32) (x2 : Int32) (x3 : Int32) (x4 : Int32) (M : zH) (r : Int64) (M' : zH)  (h : F_Pa_chanceOfFew_b20 n E S (a0, x1, x2, x3, x4, M) = some (r, M')) : zG E Y_Pa_chanceOfFew (some (.long r), S, M') 20 [(0, .ref a0), (1, .int x1), (2, .int x2), (3, .int x3), (4, .int x4)] [] S M 0 0 := by
  have key : ∀ (k : Nat) (a0 : Nat) (x1 : Int32) (x2 : Int32) (x3 : Int32) (x4 : Int32) (M : zH), zfix (fun r20 s => F_Pa_chanceOfFew_L20 n E S r20 s.1 s.2.1 s.2.2.1 s.2.2.2.1 s.2.2.2.2.1 s.2.2.2.2.2) k (a0, x1, x2, x3, x4, M) = some (r, M') → zG E Y_Pa_chanceOfFew (some (.long r), S, M') 20 [(0, .ref a0), (1, .int x1), (2, .int x2), (3, .int x3), (4, .int x4)] [] S M 0 0 := by
    intro k
    induction k with
    | zero => intro a0 x1 x2 x3 x4 M h; cases h
    | succ k ih => intro a0 x1 x2 x3 x4 M h; exact K_Pa_chanceOfFew_L20 n E S _ a0 x1 x2 x3 x4 M r M'  (fun a0 x1 x2 x3 x4 M h => ih a0 x1 x2 x3 x4 M h) h
  exact key n a0 x1 x2 x3 x4 M h
theorem K_Pa_chanceOfFew (n : Nat) (E : zE) (S : zS) (a0 : Nat) (x1 : Int32) (x2 : Int32) (x3 : Int32) (M : zH) (r : Int64) (M' : zH)  (h : F_Pa_chanceOfFew n E S a0 x1 x2 x3 M = some (r, M')) : zG E Y_Pa_chanceOfFew (some (.long r), S, M') 0 [(0, .ref a0), (1, .int x1), (2, .int x2), (3, .int x3)] [] S M 0 0 := by
  unfold F_Pa_chanceOfFew at h
  refine zi_aload_n 0 d_Pa_chanceOfFew_0 rfl ?_
  obtain ⟨b_18, eb_18, h⟩ := zbind h
  refine zo_getR 4 zkd_4 7 d_Pa_chanceOfFew_1 eb_18 rfl tw_305 rfl ?_
  refine zi_lconst 0 d_Pa_chanceOfFew_4 rfl ?_
  obtain ⟨q_19, eq_19, h⟩ := zbind h
  refine zo_stat (k' := 0) (n' := 0) 8 [.ref b_18, .long 0] [] [] (C_Ja_fillJ n E S b_18 0 M q_19 eq_19) d_Pa_chanceOfFew_5 tw_1144 tw_1142 tw_1143 tw_3 dd_Ja_fillJ ⟨Nat.le_of_ble_eq_true rfl, Nat.le_of_ble_eq_true rfl, Nat.le_of_ble_eq_true rfl, Nat.le_of_ble_eq_true rfl⟩ (Nat.le_of_ble_eq_true rfl) rfl rfl rfl rfl ?_
  refine zi_aload_n 0 d_Pa_chanceOfFew_8 rfl ?_
  refine zo_getR 12 zkd_4 7 d_Pa_chanceOfFew_9 eb_18 rfl tw_305 rfl ?_
  refine zi_iconst 0 d_Pa_chanceOfFew_12 rfl ?_
  refine zi_ldc2 d_Pa_chanceOfFew_13 tw_1145 ?_
  obtain ⟨m_20, em_20, h⟩ := zbind h
  refine zo_last 17 d_Pa_chanceOfFew_16 em_20 rfl ?_
  refine zi_iconst 0 d_Pa_chanceOfFew_17 rfl ?_
  refine zi_istore [(4, .int 0), (0, .ref a0), (1, .int x1), (2, .int x2), (3, .int x3)] d_Pa_chanceOfFew_18 (by decide) rfl ?_
  refine zi_lo [(0, .ref a0), (1, .int x1), (2, .int x2), (3, .int x3), (4, .int 0)] [1, 2, 3, 4, 0] rfl ?_
  exact K_Pa_chanceOfFew_b20 n E S a0 x1 x2 x3 0 m_20 r M'  h
theorem C_Pa_chanceOfFew (n : Nat) (E : zE) (S : zS) (a0 : Nat) (x1 : Int32) (x2 : Int32) (x3 : Int32) (M : zH) (r : Int64) (M' : zH) (h : F_Pa_chanceOfFew n E S a0 x1 x2 x3 M = some (r, M')) : zC E Y_Pa_chanceOfFew [.ref a0, .int x1, .int x2, .int x3] S M (some (.long r), S, M') :=
  zC.of (Or.inl (show plainName "NightColander$Paper" = true by decide)) (Nat.le_of_ble_eq_true rfl) (trivial) (K_Pa_chanceOfFew n E S a0 x1 x2 x3 M r M' h)
theorem d_NC_few_0 : decode (yB Y_NC_few) 0 = .ok (.iload_n 1, 1) := by decide +kernel
theorem d_NC_few_1 : decode (yB Y_NC_few) 1 = .ok (.iconst 1, 1) := by decide +kernel
theorem d_NC_few_2 : decode (yB Y_NC_few) 2 = .ok (.bipush 20, 2) := by decide +kernel
theorem d_NC_few_4 : decode (yB Y_NC_few) 4 = .ok (.invokestatic 132, 3) := by decide +kernel
theorem d_NC_few_7 : decode (yB Y_NC_few) 7 = .ok (.ifCond .eq 13, 3) := by decide +kernel
theorem d_NC_few_10 : decode (yB Y_NC_few) 10 = .ok (.iload_n 2, 1) := by decide +kernel
theorem d_NC_few_11 : decode (yB Y_NC_few) 11 = .ok (.iconst 0, 1) := by decide +kernel
theorem d_NC_few_12 : decode (yB Y_NC_few) 12 = .ok (.bipush 99, 2) := by decide +kernel
theorem d_NC_few_14 : decode (yB Y_NC_few) 14 = .ok (.invokestatic 132, 3) := by decide +kernel
theorem d_NC_few_17 : decode (yB Y_NC_few) 17 = .ok (.ifCond .ne 7, 3) := by decide +kernel
theorem d_NC_few_20 : decode (yB Y_NC_few) 20 = .ok (.ldc2_w 304, 3) := by decide +kernel
theorem d_NC_few_23 : decode (yB Y_NC_few) 23 = .ok (.lreturn, 1) := by decide +kernel
theorem d_NC_few_24 : decode (yB Y_NC_few) 24 = .ok (.aload_n 0, 1) := by decide +kernel
theorem d_NC_few_25 : decode (yB Y_NC_few) 25 = .ok (.getfield 86, 3) := by decide +kernel
theorem d_NC_few_28 : decode (yB Y_NC_few) 28 = .ok (.iload_n 1, 1) := by decide +kernel
theorem d_NC_few_29 : decode (yB Y_NC_few) 29 = .ok (.iload_n 2, 1) := by decide +kernel
theorem d_NC_few_30 : decode (yB Y_NC_few) 30 = .ok (.aload_n 0, 1) := by decide +kernel
theorem d_NC_few_31 : decode (yB Y_NC_few) 31 = .ok (.getfield 12, 3) := by decide +kernel
theorem d_NC_few_34 : decode (yB Y_NC_few) 34 = .ok (.getfield 192, 3) := by decide +kernel
theorem d_NC_few_37 : decode (yB Y_NC_few) 37 = .ok (.iconst 3, 1) := by decide +kernel
theorem d_NC_few_38 : decode (yB Y_NC_few) 38 = .ok (.iaload, 1) := by decide +kernel
theorem d_NC_few_39 : decode (yB Y_NC_few) 39 = .ok (.invokevirtual 306, 3) := by decide +kernel
theorem d_NC_few_42 : decode (yB Y_NC_few) 42 = .ok (.lreturn, 1) := by decide +kernel
def F_NC_few_b20 (n : Nat) (E : zE) (S : zS)  (M : zH) : Option (Int64 × zH) :=
  some ((-1), M)
def F_NC_few (n : Nat) (E : zE) (S : zS) (a0 : Nat) (x1 : Int32) (x2 : Int32) (M : zH) : Option (Int64 × zH) :=
  (F_NC_within n E S x1 1 20 M).bind fun q_1 =>
  if q_1.1 = true then
    (F_NC_within n E S x2 0 99 q_1.2).bind fun q_3 =>
    if q_3.1 = true then
      (zgR S a0 10 12).bind fun b_5 =>
      (zgR S a0 10 0).bind fun b_6 =>
      (zgR S b_6 3 9).bind fun b_7 =>
      (zldI S q_3.2 b_7 3).bind fun v_8 =>
      (zck S b_5 4).bind fun u_9 =>
      (F_Pa_chanceOfFew n E S b_5 x1 x2 v_8 q_3.2).bind fun q_10 =>
      some (q_10.1, q_10.2)
    else
      F_NC_few_b20 n E S  q_3.2
  else
    F_NC_few_b20 n E S  q_1.2
theorem K_NC_few_b20 (n : Nat) (E : zE) (S : zS)  (M : zH) (r : Int64) (M' : zH)  (h : F_NC_few_b20 n E S  M = some (r, M')) : zG E Y_NC_few (some (.long r), S, M') 20 [] [] S M 0 0 := by
  unfold F_NC_few_b20 at h
  refine zi_ldc2 d_NC_few_20 tw_1137 ?_
  cases h
  exact zo_ret d_NC_few_23 (Nat.le_of_ble_eq_true rfl) (Nat.le_of_ble_eq_true rfl) rfl
theorem K_NC_few (n : Nat) (E : zE) (S : zS) (a0 : Nat) (x1 : Int32) (x2 : Int32) (M : zH) (r : Int64) (M' : zH)  (h : F_NC_few n E S a0 x1 x2 M = some (r, M')) : zG E Y_NC_few (some (.long r), S, M') 0 [(0, .ref a0), (1, .int x1), (2, .int x2)] [] S M 0 0 := by
  unfold F_NC_few at h
  refine zi_iload_n 1 d_NC_few_0 rfl ?_
  refine zi_iconst 1 d_NC_few_1 rfl ?_
  refine zi_bipush 20 d_NC_few_2 rfl ?_
  obtain ⟨q_1, eq_1, h⟩ := zbind h
  refine zo_stat (k' := 0) (n' := 0) 7 [.int x1, .int 1, .int 20] [] [.int (bI q_1.1)] (C_NC_within n E S x1 1 20 M q_1.1 q_1.2 eq_1) d_NC_few_4 tw_399 tw_397 tw_398 tw_1 dd_NC_within ⟨Nat.le_of_ble_eq_true rfl, Nat.le_of_ble_eq_true rfl, Nat.le_of_ble_eq_true rfl, Nat.le_of_ble_eq_true rfl⟩ (Nat.le_of_ble_eq_true rfl) rfl rfl rfl rfl ?_
  refine zo_ifeqB d_NC_few_7 rfl 10 rfl (fun c_2 => ?_) (fun c_2 => ?_)
  · rw [if_neg c_2] at h
    refine zi_lo [] [] rfl ?_
    exact K_NC_few_b20 n E S  q_1.2 r M'  h
  · rw [if_pos c_2] at h
    refine zi_iload_n 2 d_NC_few_10 rfl ?_
    refine zi_iconst 0 d_NC_few_11 rfl ?_
    refine zi_bipush 99 d_NC_few_12 rfl ?_
    obtain ⟨q_3, eq_3, h⟩ := zbind h
    refine zo_stat (k' := 0) (n' := 0) 17 [.int x2, .int 0, .int 99] [] [.int (bI q_3.1)] (C_NC_within n E S x2 0 99 q_1.2 q_3.1 q_3.2 eq_3) d_NC_few_14 tw_399 tw_397 tw_398 tw_1 dd_NC_within ⟨Nat.le_of_ble_eq_true rfl, Nat.le_of_ble_eq_true rfl, Nat.le_of_ble_eq_true rfl, Nat.le_of_ble_eq_true rfl⟩ (Nat.le_of_ble_eq_true rfl) rfl rfl rfl rfl ?_
    refine zo_ifneB d_NC_few_17 rfl 20 rfl (fun c_4 => ?_) (fun c_4 => ?_)
    · rw [if_pos c_4] at h
      refine zi_aload_n 0 d_NC_few_24 rfl ?_
      obtain ⟨b_5, eb_5, h⟩ := zbind h
      refine zo_getR 28 zkd_10 12 d_NC_few_25 eb_5 rfl tw_344 rfl ?_
      refine zi_iload_n 1 d_NC_few_28 rfl ?_
      refine zi_iload_n 2 d_NC_few_29 rfl ?_
      refine zi_aload_n 0 d_NC_few_30 rfl ?_
      obtain ⟨b_6, eb_6, h⟩ := zbind h
      refine zo_getR 34 zkd_10 0 d_NC_few_31 eb_6 rfl tw_332 rfl ?_
      obtain ⟨b_7, eb_7, h⟩ := zbind h
      refine zo_getR 37 zkd_3 9 d_NC_few_34 eb_7 rfl tw_84 rfl ?_
      refine zi_iconst 3 d_NC_few_37 rfl ?_
      obtain ⟨v_8, ev_8, h⟩ := zbind h
      refine zo_iald 39 d_NC_few_38 ev_8 rfl ?_
      obtain ⟨u_9, eu_9, h⟩ := zbind h
      obtain ⟨q_10, eq_10, h⟩ := zbind h
      refine zo_virt (k' := 0) (n' := 0) 42 [.int x1, .int x2, .int v_8] [] [.long q_10.1] zkd_4 (zck_s eu_9) (C_Pa_chanceOfFew n E S b_5 x1 x2 v_8 q_3.2 q_10.1 q_10.2 eq_10) d_NC_few_39 tw_1141 tw_1138 tw_1139 tw_1140 tw_12 dd_Pa_chanceOfFew ⟨Nat.le_of_ble_eq_true rfl, Nat.le_of_ble_eq_true rfl, Nat.le_of_ble_eq_true rfl, Nat.le_of_ble_eq_true rfl⟩ (Nat.le_of_ble_eq_true rfl) rfl rfl rfl rfl ?_
      cases h
      exact zo_ret d_NC_few_42 (Nat.le_of_ble_eq_true rfl) (Nat.le_of_ble_eq_true rfl) rfl
    · rw [if_neg c_4] at h
      refine zi_lo [] [] rfl ?_
      exact K_NC_few_b20 n E S  q_3.2 r M'  h
theorem C_NC_few (n : Nat) (E : zE) (S : zS) (a0 : Nat) (x1 : Int32) (x2 : Int32) (M : zH) (r : Int64) (M' : zH) (h : F_NC_few n E S a0 x1 x2 M = some (r, M')) : zC E Y_NC_few [.ref a0, .int x1, .int x2] S M (some (.long r), S, M') :=
  zC.of (Or.inl (show plainName "NightColander" = true by decide)) (Nat.le_of_ble_eq_true rfl) (trivial) (K_NC_few n E S a0 x1 x2 M r M' h)
theorem d_Pa_worthBy_0 : decode (yB Y_Pa_worthBy) 0 = .ok (.aload_n 0, 1) := by decide +kernel
theorem d_Pa_worthBy_1 : decode (yB Y_Pa_worthBy) 1 = .ok (.getfield 12, 3) := by decide +kernel
theorem d_Pa_worthBy_4 : decode (yB Y_Pa_worthBy) 4 = .ok (.aload_n 1, 1) := by decide +kernel
theorem d_Pa_worthBy_5 : decode (yB Y_Pa_worthBy) 5 = .ok (.invokevirtual 53, 3) := by decide +kernel
theorem d_Pa_worthBy_8 : decode (yB Y_Pa_worthBy) 8 = .ok (.aload_n 0, 1) := by decide +kernel
theorem d_Pa_worthBy_9 : decode (yB Y_Pa_worthBy) 9 = .ok (.getfield 12, 3) := by decide +kernel
theorem d_Pa_worthBy_12 : decode (yB Y_Pa_worthBy) 12 = .ok (.iload_n 2, 1) := by decide +kernel
theorem d_Pa_worthBy_13 : decode (yB Y_Pa_worthBy) 13 = .ok (.putfield 189, 3) := by decide +kernel
theorem d_Pa_worthBy_16 : decode (yB Y_Pa_worthBy) 16 = .ok (.iconst 0, 1) := by decide +kernel
theorem d_Pa_worthBy_17 : decode (yB Y_Pa_worthBy) 17 = .ok (.istore_n 3, 1) := by decide +kernel
theorem d_Pa_worthBy_18 : decode (yB Y_Pa_worthBy) 18 = .ok (.iconst 0, 1) := by decide +kernel
theorem d_Pa_worthBy_19 : decode (yB Y_Pa_worthBy) 19 = .ok (.istore 4, 2) := by decide +kernel
theorem d_Pa_worthBy_21 : decode (yB Y_Pa_worthBy) 21 = .ok (.iload 4, 2) := by decide +kernel
theorem d_Pa_worthBy_23 : decode (yB Y_Pa_worthBy) 23 = .ok (.aload_n 0, 1) := by decide +kernel
theorem d_Pa_worthBy_24 : decode (yB Y_Pa_worthBy) 24 = .ok (.getfield 12, 3) := by decide +kernel
theorem d_Pa_worthBy_27 : decode (yB Y_Pa_worthBy) 27 = .ok (.getfield 77, 3) := by decide +kernel
theorem d_Pa_worthBy_30 : decode (yB Y_Pa_worthBy) 30 = .ok (.if_icmp .ge 46, 3) := by decide +kernel
theorem d_Pa_worthBy_33 : decode (yB Y_Pa_worthBy) 33 = .ok (.iload_n 3, 1) := by decide +kernel
theorem d_Pa_worthBy_34 : decode (yB Y_Pa_worthBy) 34 = .ok (.aload_n 0, 1) := by decide +kernel
theorem d_Pa_worthBy_35 : decode (yB Y_Pa_worthBy) 35 = .ok (.getfield 12, 3) := by decide +kernel
theorem d_Pa_worthBy_38 : decode (yB Y_Pa_worthBy) 38 = .ok (.getfield 97, 3) := by decide +kernel
theorem d_Pa_worthBy_41 : decode (yB Y_Pa_worthBy) 41 = .ok (.iload 4, 2) := by decide +kernel
theorem d_Pa_worthBy_43 : decode (yB Y_Pa_worthBy) 43 = .ok (.iaload, 1) := by decide +kernel
theorem d_Pa_worthBy_44 : decode (yB Y_Pa_worthBy) 44 = .ok (.aload_n 0, 1) := by decide +kernel
theorem d_Pa_worthBy_45 : decode (yB Y_Pa_worthBy) 45 = .ok (.getfield 45, 3) := by decide +kernel
theorem d_Pa_worthBy_48 : decode (yB Y_Pa_worthBy) 48 = .ok (.aload_n 0, 1) := by decide +kernel
theorem d_Pa_worthBy_49 : decode (yB Y_Pa_worthBy) 49 = .ok (.getfield 12, 3) := by decide +kernel
theorem d_Pa_worthBy_52 : decode (yB Y_Pa_worthBy) 52 = .ok (.iload 4, 2) := by decide +kernel
theorem d_Pa_worthBy_54 : decode (yB Y_Pa_worthBy) 54 = .ok (.aload_n 0, 1) := by decide +kernel
theorem d_Pa_worthBy_55 : decode (yB Y_Pa_worthBy) 55 = .ok (.getfield 12, 3) := by decide +kernel
theorem d_Pa_worthBy_58 : decode (yB Y_Pa_worthBy) 58 = .ok (.getfield 91, 3) := by decide +kernel
theorem d_Pa_worthBy_61 : decode (yB Y_Pa_worthBy) 61 = .ok (.iload 4, 2) := by decide +kernel
theorem d_Pa_worthBy_63 : decode (yB Y_Pa_worthBy) 63 = .ok (.iaload, 1) := by decide +kernel
theorem d_Pa_worthBy_64 : decode (yB Y_Pa_worthBy) 64 = .ok (.invokevirtual 192, 3) := by decide +kernel
theorem d_Pa_worthBy_67 : decode (yB Y_Pa_worthBy) 67 = .ok (.imul, 1) := by decide +kernel
theorem d_Pa_worthBy_68 : decode (yB Y_Pa_worthBy) 68 = .ok (.iadd, 1) := by decide +kernel
theorem d_Pa_worthBy_69 : decode (yB Y_Pa_worthBy) 69 = .ok (.istore_n 3, 1) := by decide +kernel
theorem d_Pa_worthBy_70 : decode (yB Y_Pa_worthBy) 70 = .ok (.iinc 4 1, 3) := by decide +kernel
theorem d_Pa_worthBy_73 : decode (yB Y_Pa_worthBy) 73 = .ok (.goto (-52), 3) := by decide +kernel
theorem d_Pa_worthBy_76 : decode (yB Y_Pa_worthBy) 76 = .ok (.iload_n 3, 1) := by decide +kernel
theorem d_Pa_worthBy_77 : decode (yB Y_Pa_worthBy) 77 = .ok (.ireturn, 1) := by decide +kernel
def F_Pa_worthBy_L21 (n : Nat) (E : zE) (S : zS) (r21 : Nat × Int32 × Int32 × zH → Option (Int32 × zH)) (a0 : Nat) (x3 : Int32) (x4 : Int32) (M : zH) : Option (Int32 × zH) :=
  (zgR S a0 4 1).bind fun b_1 =>
  (zgI S M b_1 3 11).bind fun v_2 =>
  if v_2 ≤ x4 then
    some (x3, M)
  else
    (zgR S b_1 3 4).bind fun b_4 =>
    (zldI S M b_4 x4).bind fun v_5 =>
    (zgR S a0 4 0).bind fun b_6 =>
    (zgR S b_1 3 5).bind fun b_7 =>
    (zldI S M b_7 x4).bind fun v_8 =>
    (zck S b_6 1).bind fun u_9 =>
    (F_Ju_payOf n E S b_6 b_1 x4 v_8 M).bind fun q_10 =>
    r21 (a0, x3 + (v_5 * q_10.1), x4 + 1, q_10.2)
def F_Pa_worthBy_b21 (n : Nat) (E : zE) (S : zS) : Nat × Int32 × Int32 × zH → Option (Int32 × zH) := zfix (fun r21 s => F_Pa_worthBy_L21 n E S r21 s.1 s.2.1 s.2.2.1 s.2.2.2) n
def F_Pa_worthBy (n : Nat) (E : zE) (S : zS) (a0 : Nat) (a1 : Nat) (x2 : Int32) (M : zH) : Option (Int32 × zH) :=
  (zgR S a0 4 1).bind fun b_11 =>
  (zck S b_11 3).bind fun u_12 =>
  (F_Ni_copyFrom n E S b_11 a1 M).bind fun q_13 =>
  (zpI S q_13 b_11 3 14 x2).bind fun m_14 =>
  F_Pa_worthBy_b21 n E S (a0, 0, 0, m_14)
theorem K_Pa_worthBy_L21 (n : Nat) (E : zE) (S : zS) (r21 : Nat × Int32 × Int32 × zH → Option (Int32 × zH)) (a0 : Nat) (x3 : Int32) (x4 : Int32) (M : zH) (r : Int32) (M' : zH) (hr21 : ∀ (a0 : Nat) (x3 : Int32) (x4 : Int32) (M : zH), r21 (a0, x3, x4, M) = some (r, M') → zG E Y_Pa_worthBy (some (.int r), S, M') 21 [(0, .ref a0), (3, .int x3), (4, .int x4)] [] S M 0 0) (h : F_Pa_worthBy_L21 n E S r21 a0 x3 x4 M = some (r, M')) : zG E Y_Pa_worthBy (some (.int r), S, M') 21 [(0, .ref a0), (3, .int x3), (4, .int x4)] [] S M 0 0 := by
  unfold F_Pa_worthBy_L21 at h
  refine zi_iload 2 d_Pa_worthBy_21 rfl ?_
  refine zi_aload_n 0 d_Pa_worthBy_23 rfl ?_
  obtain ⟨b_1, eb_1, h⟩ := zbind h
  refine zo_getR 27 zkd_4 1 d_Pa_worthBy_24 eb_1 rfl tw_299 rfl ?_
  obtain ⟨v_2, ev_2, h⟩ := zbind h
  refine zo_getI 30 zkd_3 11 d_Pa_worthBy_27 ev_2 rfl tw_88 rfl ?_
  refine zi_icmp_ge (tgt := 76) d_Pa_worthBy_30 rfl (fun c_3 => ?_) (fun c_3 => ?_)
  · rw [if_pos c_3] at h
    refine zi_iload_n 1 d_Pa_worthBy_76 rfl ?_
    cases h
    exact zo_ret d_Pa_worthBy_77 (Nat.le_of_ble_eq_true rfl) (Nat.le_of_ble_eq_true rfl) rfl
  · rw [if_neg c_3] at h
    refine zi_iload_n 1 d_Pa_worthBy_33 rfl ?_
    refine zi_aload_n 0 d_Pa_worthBy_34 rfl ?_
    refine zo_getR 38 zkd_4 1 d_Pa_worthBy_35 eb_1 rfl tw_299 rfl ?_
    obtain ⟨b_4, eb_4, h⟩ := zbind h
    refine zo_getR 41 zkd_3 4 d_Pa_worthBy_38 eb_4 rfl tw_65 rfl ?_
    refine zi_iload 2 d_Pa_worthBy_41 rfl ?_
    obtain ⟨v_5, ev_5, h⟩ := zbind h
    refine zo_iald 44 d_Pa_worthBy_43 ev_5 rfl ?_
    refine zi_aload_n 0 d_Pa_worthBy_44 rfl ?_
    obtain ⟨b_6, eb_6, h⟩ := zbind h
    refine zo_getR 48 zkd_4 0 d_Pa_worthBy_45 eb_6 rfl tw_298 rfl ?_
    refine zi_aload_n 0 d_Pa_worthBy_48 rfl ?_
    refine zo_getR 52 zkd_4 1 d_Pa_worthBy_49 eb_1 rfl tw_299 rfl ?_
    refine zi_iload 2 d_Pa_worthBy_52 rfl ?_
    refine zi_aload_n 0 d_Pa_worthBy_54 rfl ?_
    refine zo_getR 58 zkd_4 1 d_Pa_worthBy_55 eb_1 rfl tw_299 rfl ?_
    obtain ⟨b_7, eb_7, h⟩ := zbind h
    refine zo_getR 61 zkd_3 5 d_Pa_worthBy_58 eb_7 rfl tw_72 rfl ?_
    refine zi_iload 2 d_Pa_worthBy_61 rfl ?_
    obtain ⟨v_8, ev_8, h⟩ := zbind h
    refine zo_iald 64 d_Pa_worthBy_63 ev_8 rfl ?_
    obtain ⟨u_9, eu_9, h⟩ := zbind h
    obtain ⟨q_10, eq_10, h⟩ := zbind h
    refine zo_virt (k' := 0) (n' := 0) 67 [.ref b_1, .int x4, .int v_8] [.int v_5, .int x3] [.int q_10.1, .int v_5, .int x3] zkd_1 (zck_s eu_9) (C_Ju_payOf n E S b_6 b_1 x4 v_8 M q_10.1 q_10.2 eq_10) d_Pa_worthBy_64 tw_494 tw_1155 tw_492 tw_493 tw_8 dd_Ju_payOf ⟨Nat.le_of_ble_eq_true rfl, Nat.le_of_ble_eq_true rfl, Nat.le_of_ble_eq_true rfl, Nat.le_of_ble_eq_true rfl⟩ (Nat.le_of_ble_eq_true rfl) rfl rfl rfl rfl ?_
    refine zi_imul d_Pa_worthBy_67 ?_
    refine zi_iadd d_Pa_worthBy_68 ?_
    refine zi_istore_n [(3, .int (x3 + (v_5 * q_10.1))), (0, .ref a0), (4, .int x4)] d_Pa_worthBy_69 (by decide) rfl ?_
    refine zi_iinc 2 (x4 + 1) [(4, .int (x4 + 1)), (3, .int (x3 + (v_5 * q_10.1))), (0, .ref a0)] d_Pa_worthBy_70 rfl rfl (by decide) rfl ?_
    refine zi_goto (tgt := 21) d_Pa_worthBy_73 rfl ?_
    refine zi_lo [(0, .ref a0), (3, .int (x3 + (v_5 * q_10.1))), (4, .int (x4 + 1))] [2, 1, 0] rfl ?_
    exact hr21 a0 (x3 + (v_5 * q_10.1)) (x4 + 1) q_10.2 h
theorem K_Pa_worthBy_b21 (n : Nat) (E : zE) (S : zS) (a0 : Nat) (x3 : Int32) (x4 : Int32) (M : zH) (r : Int32) (M' : zH)  (h : F_Pa_worthBy_b21 n E S (a0, x3, x4, M) = some (r, M')) : zG E Y_Pa_worthBy (some (.int r), S, M') 21 [(0, .ref a0), (3, .int x3), (4, .int x4)] [] S M 0 0 := by
  have key : ∀ (k : Nat) (a0 : Nat) (x3 : Int32) (x4 : Int32) (M : zH), zfix (fun r21 s => F_Pa_worthBy_L21 n E S r21 s.1 s.2.1 s.2.2.1 s.2.2.2) k (a0, x3, x4, M) = some (r, M') → zG E Y_Pa_worthBy (some (.int r), S, M') 21 [(0, .ref a0), (3, .int x3), (4, .int x4)] [] S M 0 0 := by
    intro k
    induction k with
    | zero => intro a0 x3 x4 M h; cases h
    | succ k ih => intro a0 x3 x4 M h; exact K_Pa_worthBy_L21 n E S _ a0 x3 x4 M r M'  (fun a0 x3 x4 M h => ih a0 x3 x4 M h) h
  exact key n a0 x3 x4 M h
theorem K_Pa_worthBy (n : Nat) (E : zE) (S : zS) (a0 : Nat) (a1 : Nat) (x2 : Int32) (M : zH) (r : Int32) (M' : zH)  (h : F_Pa_worthBy n E S a0 a1 x2 M = some (r, M')) : zG E Y_Pa_worthBy (some (.int r), S, M') 0 [(0, .ref a0), (1, .ref a1), (2, .int x2)] [] S M 0 0 := by
  unfold F_Pa_worthBy at h
  refine zi_aload_n 0 d_Pa_worthBy_0 rfl ?_
  obtain ⟨b_11, eb_11, h⟩ := zbind h
  refine zo_getR 4 zkd_4 1 d_Pa_worthBy_1 eb_11 rfl tw_299 rfl ?_
  refine zi_aload_n 1 d_Pa_worthBy_4 rfl ?_
  obtain ⟨u_12, eu_12, h⟩ := zbind h
  obtain ⟨q_13, eq_13, h⟩ := zbind h
  refine zo_virt (k' := 0) (n' := 0) 8 [.ref a1] [] [] zkd_3 (zck_s eu_12) (C_Ni_copyFrom n E S b_11 a1 M q_13 eq_13) d_Pa_worthBy_5 tw_867 tw_984 tw_865 tw_866 tw_2 dd_Ni_copyFrom ⟨Nat.le_of_ble_eq_true rfl, Nat.le_of_ble_eq_true rfl, Nat.le_of_ble_eq_true rfl, Nat.le_of_ble_eq_true rfl⟩ (Nat.le_of_ble_eq_true rfl) rfl rfl rfl rfl ?_
  refine zi_aload_n 0 d_Pa_worthBy_8 rfl ?_
  refine zo_getR 12 zkd_4 1 d_Pa_worthBy_9 eb_11 rfl tw_299 rfl ?_
  refine zi_iload_n 2 d_Pa_worthBy_12 rfl ?_
  obtain ⟨m_14, em_14, h⟩ := zbind h
  refine zo_putI 16 zkd_3 14 d_Pa_worthBy_13 em_14 rfl rfl rfl tw_97 rfl ?_
  refine zi_iconst 0 d_Pa_worthBy_16 rfl ?_
  refine zi_istore_n [(3, .int 0), (0, .ref a0), (1, .ref a1), (2, .int x2)] d_Pa_worthBy_17 (by decide) rfl ?_
  refine zi_iconst 0 d_Pa_worthBy_18 rfl ?_
  refine zi_istore [(4, .int 0), (3, .int 0), (0, .ref a0), (1, .ref a1), (2, .int x2)] d_Pa_worthBy_19 (by decide) rfl ?_
  refine zi_lo [(0, .ref a0), (3, .int 0), (4, .int 0)] [2, 1, 0] rfl ?_
  exact K_Pa_worthBy_b21 n E S a0 0 0 m_14 r M'  h
theorem C_Pa_worthBy (n : Nat) (E : zE) (S : zS) (a0 : Nat) (a1 : Nat) (x2 : Int32) (M : zH) (r : Int32) (M' : zH) (h : F_Pa_worthBy n E S a0 a1 x2 M = some (r, M')) : zC E Y_Pa_worthBy [.ref a0, .ref a1, .int x2] S M (some (.int r), S, M') :=
  zC.of (Or.inl (show plainName "NightColander$Paper" = true by decide)) (Nat.le_of_ble_eq_true rfl) (trivial) (K_Pa_worthBy n E S a0 a1 x2 M r M' h)
theorem d_NC_worth_0 : decode (yB Y_NC_worth) 0 = .ok (.iload_n 1, 1) := by decide +kernel
theorem d_NC_worth_1 : decode (yB Y_NC_worth) 1 = .ok (.iconst (-1), 1) := by decide +kernel
theorem d_NC_worth_2 : decode (yB Y_NC_worth) 2 = .ok (.if_icmp .eq 16, 3) := by decide +kernel
theorem d_NC_worth_5 : decode (yB Y_NC_worth) 5 = .ok (.aload_n 0, 1) := by decide +kernel
theorem d_NC_worth_6 : decode (yB Y_NC_worth) 6 = .ok (.getfield 12, 3) := by decide +kernel
theorem d_NC_worth_9 : decode (yB Y_NC_worth) 9 = .ok (.iload_n 1, 1) := by decide +kernel
theorem d_NC_worth_10 : decode (yB Y_NC_worth) 10 = .ok (.invokevirtual 243, 3) := by decide +kernel
theorem d_NC_worth_13 : decode (yB Y_NC_worth) 13 = .ok (.ifCond .ne 5, 3) := by decide +kernel
theorem d_NC_worth_16 : decode (yB Y_NC_worth) 16 = .ok (.iconst (-1), 1) := by decide +kernel
theorem d_NC_worth_17 : decode (yB Y_NC_worth) 17 = .ok (.ireturn, 1) := by decide +kernel
theorem d_NC_worth_18 : decode (yB Y_NC_worth) 18 = .ok (.aload_n 0, 1) := by decide +kernel
theorem d_NC_worth_19 : decode (yB Y_NC_worth) 19 = .ok (.getfield 86, 3) := by decide +kernel
theorem d_NC_worth_22 : decode (yB Y_NC_worth) 22 = .ok (.aload_n 0, 1) := by decide +kernel
theorem d_NC_worth_23 : decode (yB Y_NC_worth) 23 = .ok (.getfield 12, 3) := by decide +kernel
theorem d_NC_worth_26 : decode (yB Y_NC_worth) 26 = .ok (.iload_n 1, 1) := by decide +kernel
theorem d_NC_worth_27 : decode (yB Y_NC_worth) 27 = .ok (.invokevirtual 310, 3) := by decide +kernel
theorem d_NC_worth_30 : decode (yB Y_NC_worth) 30 = .ok (.ireturn, 1) := by decide +kernel
def F_NC_worth_b18 (n : Nat) (E : zE) (S : zS) (a0 : Nat) (x1 : Int32) (M : zH) : Option (Int32 × zH) :=
  (zgR S a0 10 12).bind fun b_1 =>
  (zgR S a0 10 0).bind fun b_2 =>
  (zck S b_1 4).bind fun u_3 =>
  (F_Pa_worthBy n E S b_1 b_2 x1 M).bind fun q_4 =>
  some (q_4.1, q_4.2)
def F_NC_worth (n : Nat) (E : zE) (S : zS) (a0 : Nat) (x1 : Int32) (M : zH) : Option (Int32 × zH) :=
  if x1 = (-1) then
    F_NC_worth_b18 n E S a0 x1 M
  else
    (zgR S a0 10 0).bind fun b_6 =>
    (zck S b_6 3).bind fun u_7 =>
    (F_Ni_hasLaw n E S b_6 x1 M).bind fun q_8 =>
    if q_8.1 = true then
      F_NC_worth_b18 n E S a0 x1 q_8.2
    else
      some ((-1), q_8.2)
theorem K_NC_worth_b18 (n : Nat) (E : zE) (S : zS) (a0 : Nat) (x1 : Int32) (M : zH) (r : Int32) (M' : zH)  (h : F_NC_worth_b18 n E S a0 x1 M = some (r, M')) : zG E Y_NC_worth (some (.int r), S, M') 18 [(0, .ref a0), (1, .int x1)] [] S M 0 0 := by
  unfold F_NC_worth_b18 at h
  refine zi_aload_n 0 d_NC_worth_18 rfl ?_
  obtain ⟨b_1, eb_1, h⟩ := zbind h
  refine zo_getR 22 zkd_10 12 d_NC_worth_19 eb_1 rfl tw_344 rfl ?_
  refine zi_aload_n 0 d_NC_worth_22 rfl ?_
  obtain ⟨b_2, eb_2, h⟩ := zbind h
  refine zo_getR 26 zkd_10 0 d_NC_worth_23 eb_2 rfl tw_332 rfl ?_
  refine zi_iload_n 1 d_NC_worth_26 rfl ?_
  obtain ⟨u_3, eu_3, h⟩ := zbind h
  obtain ⟨q_4, eq_4, h⟩ := zbind h
  refine zo_virt (k' := 0) (n' := 0) 30 [.ref b_2, .int x1] [] [.int q_4.1] zkd_4 (zck_s eu_3) (C_Pa_worthBy n E S b_1 b_2 x1 M q_4.1 q_4.2 eq_4) d_NC_worth_27 tw_1154 tw_1151 tw_1152 tw_1153 tw_12 dd_Pa_worthBy ⟨Nat.le_of_ble_eq_true rfl, Nat.le_of_ble_eq_true rfl, Nat.le_of_ble_eq_true rfl, Nat.le_of_ble_eq_true rfl⟩ (Nat.le_of_ble_eq_true rfl) rfl rfl rfl rfl ?_
  cases h
  exact zo_ret d_NC_worth_30 (Nat.le_of_ble_eq_true rfl) (Nat.le_of_ble_eq_true rfl) rfl
theorem K_NC_worth (n : Nat) (E : zE) (S : zS) (a0 : Nat) (x1 : Int32) (M : zH) (r : Int32) (M' : zH)  (h : F_NC_worth n E S a0 x1 M = some (r, M')) : zG E Y_NC_worth (some (.int r), S, M') 0 [(0, .ref a0), (1, .int x1)] [] S M 0 0 := by
  unfold F_NC_worth at h
  refine zi_iload_n 1 d_NC_worth_0 rfl ?_
  refine zi_iconst (-1) d_NC_worth_1 rfl ?_
  refine zi_icmp_eq (tgt := 18) d_NC_worth_2 rfl (fun c_5 => ?_) (fun c_5 => ?_)
  · rw [if_pos c_5] at h
    refine zi_lo [(0, .ref a0), (1, .int x1)] [0, 1] rfl ?_
    exact K_NC_worth_b18 n E S a0 x1 M r M'  h
  · rw [if_neg c_5] at h
    refine zi_aload_n 0 d_NC_worth_5 rfl ?_
    obtain ⟨b_6, eb_6, h⟩ := zbind h
    refine zo_getR 9 zkd_10 0 d_NC_worth_6 eb_6 rfl tw_332 rfl ?_
    refine zi_iload_n 1 d_NC_worth_9 rfl ?_
    obtain ⟨u_7, eu_7, h⟩ := zbind h
    obtain ⟨q_8, eq_8, h⟩ := zbind h
    refine zo_virt (k' := 0) (n' := 0) 13 [.int x1] [] [.int (bI q_8.1)] zkd_3 (zck_s eu_7) (C_Ni_hasLaw n E S b_6 x1 M q_8.1 q_8.2 eq_8) d_NC_worth_10 tw_945 tw_942 tw_943 tw_944 tw_2 dd_Ni_hasLaw ⟨Nat.le_of_ble_eq_true rfl, Nat.le_of_ble_eq_true rfl, Nat.le_of_ble_eq_true rfl, Nat.le_of_ble_eq_true rfl⟩ (Nat.le_of_ble_eq_true rfl) rfl rfl rfl rfl ?_
    refine zo_ifneB d_NC_worth_13 rfl 16 rfl (fun c_9 => ?_) (fun c_9 => ?_)
    · rw [if_pos c_9] at h
      refine zi_lo [(0, .ref a0), (1, .int x1)] [0, 1] rfl ?_
      exact K_NC_worth_b18 n E S a0 x1 q_8.2 r M'  h
    · rw [if_neg c_9] at h
      refine zi_iconst (-1) d_NC_worth_16 rfl ?_
      cases h
      exact zo_ret d_NC_worth_17 (Nat.le_of_ble_eq_true rfl) (Nat.le_of_ble_eq_true rfl) rfl
theorem C_NC_worth (n : Nat) (E : zE) (S : zS) (a0 : Nat) (x1 : Int32) (M : zH) (r : Int32) (M' : zH) (h : F_NC_worth n E S a0 x1 M = some (r, M')) : zC E Y_NC_worth [.ref a0, .int x1] S M (some (.int r), S, M') :=
  zC.of (Or.inl (show plainName "NightColander" = true by decide)) (Nat.le_of_ble_eq_true rfl) (trivial) (K_NC_worth n E S a0 x1 M r M' h)
theorem d_De_nextDraw_0 : decode (yB Y_De_nextDraw) 0 = .ok (.lload_n 0, 1) := by decide +kernel
theorem d_De_nextDraw_1 : decode (yB Y_De_nextDraw) 1 = .ok (.ldc2_w 65, 3) := by decide +kernel
theorem d_De_nextDraw_4 : decode (yB Y_De_nextDraw) 4 = .ok (.lmul, 1) := by decide +kernel
theorem d_De_nextDraw_5 : decode (yB Y_De_nextDraw) 5 = .ok (.ldc2_w 67, 3) := by decide +kernel
theorem d_De_nextDraw_8 : decode (yB Y_De_nextDraw) 8 = .ok (.ladd, 1) := by decide +kernel
theorem d_De_nextDraw_9 : decode (yB Y_De_nextDraw) 9 = .ok (.ldc2_w 69, 3) := by decide +kernel
theorem d_De_nextDraw_12 : decode (yB Y_De_nextDraw) 12 = .ok (.lrem, 1) := by decide +kernel
theorem d_De_nextDraw_13 : decode (yB Y_De_nextDraw) 13 = .ok (.lreturn, 1) := by decide +kernel
def F_De_nextDraw (n : Nat) (E : zE) (S : zS) (y0 : Int64) (M : zH) : Option (Int64 × zH) :=
  (zremJ ((y0 * 1103) + 12345) 1000003).bind fun v_1 =>
  some (v_1, M)
theorem K_De_nextDraw (n : Nat) (E : zE) (S : zS) (y0 : Int64) (M : zH) (r : Int64) (M' : zH)  (h : F_De_nextDraw n E S y0 M = some (r, M')) : zG E Y_De_nextDraw (some (.long r), S, M') 0 [(0, .long y0)] [] S M 0 0 := by
  unfold F_De_nextDraw at h
  refine zi_lload_n 0 d_De_nextDraw_0 rfl ?_
  refine zi_ldc2 d_De_nextDraw_1 tw_1168 ?_
  refine zi_lmul d_De_nextDraw_4 ?_
  refine zi_ldc2 d_De_nextDraw_5 tw_1169 ?_
  refine zi_ladd d_De_nextDraw_8 ?_
  refine zi_ldc2 d_De_nextDraw_9 tw_1170 ?_
  obtain ⟨v_1, ev_1, h⟩ := zbind h
  refine zo_lrem 13 d_De_nextDraw_12 ev_1 rfl ?_
  cases h
  exact zo_ret d_De_nextDraw_13 (Nat.le_of_ble_eq_true rfl) (Nat.le_of_ble_eq_true rfl) rfl
theorem C_De_nextDraw (n : Nat) (E : zE) (S : zS) (y0 : Int64) (M : zH) (r : Int64) (M' : zH) (h : F_De_nextDraw n E S y0 M = some (r, M')) : zC E Y_De_nextDraw [.long y0] S M (some (.long r), S, M') :=
  zC.of (Or.inl (show plainName "NightColander$Deeds" = true by decide)) (Nat.le_of_ble_eq_true rfl) (trivial) (K_De_nextDraw n E S y0 M r M' h)
theorem d_De_runYears_0 : decode (yB Y_De_runYears) 0 = .ok (.iload_n 2, 1) := by decide +kernel
theorem d_De_runYears_1 : decode (yB Y_De_runYears) 1 = .ok (.i2l, 1) := by decide +kernel
theorem d_De_runYears_2 : decode (yB Y_De_runYears) 2 = .ok (.lstore 4, 2) := by decide +kernel
theorem d_De_runYears_4 : decode (yB Y_De_runYears) 4 = .ok (.iconst 0, 1) := by decide +kernel
theorem d_De_runYears_5 : decode (yB Y_De_runYears) 5 = .ok (.istore 6, 2) := by decide +kernel
theorem d_De_runYears_7 : decode (yB Y_De_runYears) 7 = .ok (.iconst 0, 1) := by decide +kernel
theorem d_De_runYears_8 : decode (yB Y_De_runYears) 8 = .ok (.istore 7, 2) := by decide +kernel
theorem d_De_runYears_10 : decode (yB Y_De_runYears) 10 = .ok (.iload 7, 2) := by decide +kernel
theorem d_De_runYears_12 : decode (yB Y_De_runYears) 12 = .ok (.iload_n 3, 1) := by decide +kernel
theorem d_De_runYears_13 : decode (yB Y_De_runYears) 13 = .ok (.if_icmp .ge 125, 3) := by decide +kernel
theorem d_De_runYears_16 : decode (yB Y_De_runYears) 16 = .ok (.aload_n 1, 1) := by decide +kernel
theorem d_De_runYears_17 : decode (yB Y_De_runYears) 17 = .ok (.getfield 49, 3) := by decide +kernel
theorem d_De_runYears_20 : decode (yB Y_De_runYears) 20 = .ok (.iconst 0, 1) := by decide +kernel
theorem d_De_runYears_21 : decode (yB Y_De_runYears) 21 = .ok (.iaload, 1) := by decide +kernel
theorem d_De_runYears_22 : decode (yB Y_De_runYears) 22 = .ok (.sipush 999, 3) := by decide +kernel
theorem d_De_runYears_25 : decode (yB Y_De_runYears) 25 = .ok (.if_icmp .ge 113, 3) := by decide +kernel
theorem d_De_runYears_28 : decode (yB Y_De_runYears) 28 = .ok (.lload 4, 2) := by decide +kernel
theorem d_De_runYears_30 : decode (yB Y_De_runYears) 30 = .ok (.invokestatic 52, 3) := by decide +kernel
theorem d_De_runYears_33 : decode (yB Y_De_runYears) 33 = .ok (.lstore 4, 2) := by decide +kernel
theorem d_De_runYears_35 : decode (yB Y_De_runYears) 35 = .ok (.lload 4, 2) := by decide +kernel
theorem d_De_runYears_37 : decode (yB Y_De_runYears) 37 = .ok (.ldc2_w 56, 3) := by decide +kernel
theorem d_De_runYears_40 : decode (yB Y_De_runYears) 40 = .ok (.lrem, 1) := by decide +kernel
theorem d_De_runYears_41 : decode (yB Y_De_runYears) 41 = .ok (.l2i, 1) := by decide +kernel
theorem d_De_runYears_42 : decode (yB Y_De_runYears) 42 = .ok (.istore 8, 2) := by decide +kernel
theorem d_De_runYears_44 : decode (yB Y_De_runYears) 44 = .ok (.lload 4, 2) := by decide +kernel
theorem d_De_runYears_46 : decode (yB Y_De_runYears) 46 = .ok (.invokestatic 52, 3) := by decide +kernel
theorem d_De_runYears_49 : decode (yB Y_De_runYears) 49 = .ok (.lstore 4, 2) := by decide +kernel
theorem d_De_runYears_51 : decode (yB Y_De_runYears) 51 = .ok (.iload 8, 2) := by decide +kernel
theorem d_De_runYears_53 : decode (yB Y_De_runYears) 53 = .ok (.bipush 8, 2) := by decide +kernel
theorem d_De_runYears_55 : decode (yB Y_De_runYears) 55 = .ok (.imul, 1) := by decide +kernel
theorem d_De_runYears_56 : decode (yB Y_De_runYears) 56 = .ok (.lload 4, 2) := by decide +kernel
theorem d_De_runYears_58 : decode (yB Y_De_runYears) 58 = .ok (.ldc2_w 58, 3) := by decide +kernel
theorem d_De_runYears_61 : decode (yB Y_De_runYears) 61 = .ok (.lrem, 1) := by decide +kernel
theorem d_De_runYears_62 : decode (yB Y_De_runYears) 62 = .ok (.l2i, 1) := by decide +kernel
theorem d_De_runYears_63 : decode (yB Y_De_runYears) 63 = .ok (.iadd, 1) := by decide +kernel
theorem d_De_runYears_64 : decode (yB Y_De_runYears) 64 = .ok (.istore 9, 2) := by decide +kernel
theorem d_De_runYears_66 : decode (yB Y_De_runYears) 66 = .ok (.lload 4, 2) := by decide +kernel
theorem d_De_runYears_68 : decode (yB Y_De_runYears) 68 = .ok (.invokestatic 52, 3) := by decide +kernel
theorem d_De_runYears_71 : decode (yB Y_De_runYears) 71 = .ok (.lstore 4, 2) := by decide +kernel
theorem d_De_runYears_73 : decode (yB Y_De_runYears) 73 = .ok (.lload 4, 2) := by decide +kernel
theorem d_De_runYears_75 : decode (yB Y_De_runYears) 75 = .ok (.ldc2_w 60, 3) := by decide +kernel
theorem d_De_runYears_78 : decode (yB Y_De_runYears) 78 = .ok (.lrem, 1) := by decide +kernel
theorem d_De_runYears_79 : decode (yB Y_De_runYears) 79 = .ok (.l2i, 1) := by decide +kernel
theorem d_De_runYears_80 : decode (yB Y_De_runYears) 80 = .ok (.istore 10, 2) := by decide +kernel
theorem d_De_runYears_82 : decode (yB Y_De_runYears) 82 = .ok (.iload 10, 2) := by decide +kernel
theorem d_De_runYears_84 : decode (yB Y_De_runYears) 84 = .ok (.ifCond .ne 13, 3) := by decide +kernel
theorem d_De_runYears_87 : decode (yB Y_De_runYears) 87 = .ok (.aload_n 1, 1) := by decide +kernel
theorem d_De_runYears_88 : decode (yB Y_De_runYears) 88 = .ok (.iload 9, 2) := by decide +kernel
theorem d_De_runYears_90 : decode (yB Y_De_runYears) 90 = .ok (.invokestatic 34, 3) := by decide +kernel
theorem d_De_runYears_93 : decode (yB Y_De_runYears) 93 = .ok (.pop, 1) := by decide +kernel
theorem d_De_runYears_94 : decode (yB Y_De_runYears) 94 = .ok (.goto 28, 3) := by decide +kernel
theorem d_De_runYears_97 : decode (yB Y_De_runYears) 97 = .ok (.iload 10, 2) := by decide +kernel
theorem d_De_runYears_99 : decode (yB Y_De_runYears) 99 = .ok (.iconst 1, 1) := by decide +kernel
theorem d_De_runYears_100 : decode (yB Y_De_runYears) 100 = .ok (.if_icmp .ne 22, 3) := by decide +kernel
theorem d_De_runYears_103 : decode (yB Y_De_runYears) 103 = .ok (.aload_n 1, 1) := by decide +kernel
theorem d_De_runYears_104 : decode (yB Y_De_runYears) 104 = .ok (.getfield 62, 3) := by decide +kernel
theorem d_De_runYears_107 : decode (yB Y_De_runYears) 107 = .ok (.iload 9, 2) := by decide +kernel
theorem d_De_runYears_109 : decode (yB Y_De_runYears) 109 = .ok (.iaload, 1) := by decide +kernel
theorem d_De_runYears_110 : decode (yB Y_De_runYears) 110 = .ok (.bipush 9, 2) := by decide +kernel
theorem d_De_runYears_112 : decode (yB Y_De_runYears) 112 = .ok (.if_icmp .ge 10, 3) := by decide +kernel
theorem d_De_runYears_115 : decode (yB Y_De_runYears) 115 = .ok (.aload_n 1, 1) := by decide +kernel
theorem d_De_runYears_116 : decode (yB Y_De_runYears) 116 = .ok (.iload 9, 2) := by decide +kernel
theorem d_De_runYears_118 : decode (yB Y_De_runYears) 118 = .ok (.invokestatic 38, 3) := by decide +kernel
theorem d_De_runYears_121 : decode (yB Y_De_runYears) 121 = .ok (.pop, 1) := by decide +kernel
theorem d_De_runYears_122 : decode (yB Y_De_runYears) 122 = .ok (.iload 6, 2) := by decide +kernel
theorem d_De_runYears_124 : decode (yB Y_De_runYears) 124 = .ok (.aload_n 0, 1) := by decide +kernel
theorem d_De_runYears_125 : decode (yB Y_De_runYears) 125 = .ok (.aload_n 1, 1) := by decide +kernel
theorem d_De_runYears_126 : decode (yB Y_De_runYears) 126 = .ok (.invokevirtual 45, 3) := by decide +kernel
theorem d_De_runYears_129 : decode (yB Y_De_runYears) 129 = .ok (.iadd, 1) := by decide +kernel
theorem d_De_runYears_130 : decode (yB Y_De_runYears) 130 = .ok (.istore 6, 2) := by decide +kernel
theorem d_De_runYears_132 : decode (yB Y_De_runYears) 132 = .ok (.iinc 7 1, 3) := by decide +kernel
theorem d_De_runYears_135 : decode (yB Y_De_runYears) 135 = .ok (.goto (-125), 3) := by decide +kernel
theorem d_De_runYears_138 : decode (yB Y_De_runYears) 138 = .ok (.iload 6, 2) := by decide +kernel
theorem d_De_runYears_140 : decode (yB Y_De_runYears) 140 = .ok (.ireturn, 1) := by decide +kernel
def F_De_runYears_b122 (n : Nat) (E : zE) (S : zS) (r10 : Nat × Nat × Int32 × Int64 × Int32 × Int32 × zH → Option (Int32 × zH)) (a0 : Nat) (a1 : Nat) (x3 : Int32) (y4 : Int64) (x6 : Int32) (x7 : Int32) (M : zH) : Option (Int32 × zH) :=
  (zck S a0 0).bind fun u_1 =>
  (F_De_letHourPass n E S a0 a1 M).bind fun q_2 =>
  r10 (a0, a1, x3, y4, x6 + q_2.1, x7 + 1, q_2.2)
def F_De_runYears_L10 (n : Nat) (E : zE) (S : zS) (r10 : Nat × Nat × Int32 × Int64 × Int32 × Int32 × zH → Option (Int32 × zH)) (a0 : Nat) (a1 : Nat) (x3 : Int32) (y4 : Int64) (x6 : Int32) (x7 : Int32) (M : zH) : Option (Int32 × zH) :=
  if x3 ≤ x7 then
    some (x6, M)
  else
    (zgR S a1 3 9).bind fun b_4 =>
    (zldI S M b_4 0).bind fun v_5 =>
    if 999 ≤ v_5 then
      some (x6, M)
    else
      (F_De_nextDraw n E S y4 M).bind fun q_7 =>
      (zremJ q_7.1 4).bind fun v_8 =>
      (F_De_nextDraw n E S q_7.1 q_7.2).bind fun q_9 =>
      (zremJ q_9.1 8).bind fun v_10 =>
      (F_De_nextDraw n E S q_9.1 q_9.2).bind fun q_11 =>
      (zremJ q_11.1 3).bind fun v_12 =>
      if v_12.toInt32 = 0 then
        (F_De_changeBlock n E S a1 ((v_8.toInt32 * 8) + v_10.toInt32) q_11.2).bind fun q_14 =>
        F_De_runYears_b122 n E S r10 a0 a1 x3 q_11.1 x6 x7 q_14.2
      else
        if v_12.toInt32 = 1 then
          (zgR S a1 3 0).bind fun b_16 =>
          (zldI S q_11.2 b_16 ((v_8.toInt32 * 8) + v_10.toInt32)).bind fun v_17 =>
          if 9 ≤ v_17 then
            F_De_runYears_b122 n E S r10 a0 a1 x3 q_11.1 x6 x7 q_11.2
          else
            (F_De_widen n E S a1 ((v_8.toInt32 * 8) + v_10.toInt32) q_11.2).bind fun q_19 =>
            F_De_runYears_b122 n E S r10 a0 a1 x3 q_11.1 x6 x7 q_19.2
        else
          F_De_runYears_b122 n E S r10 a0 a1 x3 q_11.1 x6 x7 q_11.2
def F_De_runYears_b10 (n : Nat) (E : zE) (S : zS) : Nat × Nat × Int32 × Int64 × Int32 × Int32 × zH → Option (Int32 × zH) := zfix (fun r10 s => F_De_runYears_L10 n E S r10 s.1 s.2.1 s.2.2.1 s.2.2.2.1 s.2.2.2.2.1 s.2.2.2.2.2.1 s.2.2.2.2.2.2) n
def F_De_runYears (n : Nat) (E : zE) (S : zS) (a0 : Nat) (a1 : Nat) (x2 : Int32) (x3 : Int32) (M : zH) : Option (Int32 × zH) :=
  F_De_runYears_b10 n E S (a0, a1, x3, x2.toInt64, 0, 0, M)
theorem K_De_runYears_b122 (n : Nat) (E : zE) (S : zS) (r10 : Nat × Nat × Int32 × Int64 × Int32 × Int32 × zH → Option (Int32 × zH)) (a0 : Nat) (a1 : Nat) (x3 : Int32) (y4 : Int64) (x6 : Int32) (x7 : Int32) (M : zH) (r : Int32) (M' : zH) (hr10 : ∀ (a0 : Nat) (a1 : Nat) (x3 : Int32) (y4 : Int64) (x6 : Int32) (x7 : Int32) (M : zH), r10 (a0, a1, x3, y4, x6, x7, M) = some (r, M') → zG E Y_De_runYears (some (.int r), S, M') 10 [(0, .ref a0), (1, .ref a1), (3, .int x3), (4, .long y4), (6, .int x6), (7, .int x7)] [] S M 0 0) (h : F_De_runYears_b122 n E S r10 a0 a1 x3 y4 x6 x7 M = some (r, M')) : zG E Y_De_runYears (some (.int r), S, M') 122 [(0, .ref a0), (1, .ref a1), (3, .int x3), (4, .long y4), (6, .int x6), (7, .int x7)] [] S M 0 0 := by
  unfold F_De_runYears_b122 at h
  refine zi_iload 4 d_De_runYears_122 rfl ?_
  refine zi_aload_n 0 d_De_runYears_124 rfl ?_
  refine zi_aload_n 1 d_De_runYears_125 rfl ?_
  obtain ⟨u_1, eu_1, h⟩ := zbind h
  obtain ⟨q_2, eq_2, h⟩ := zbind h
  refine zo_virt (k' := 0) (n' := 0) 129 [.ref a1] [.int x6] [.int q_2.1, .int x6] zkd_0 (zck_s eu_1) (C_De_letHourPass n E S a0 a1 M q_2.1 q_2.2 eq_2) d_De_runYears_126 tw_921 tw_918 tw_920 ts_23 tw_10 dd_De_letHourPass ⟨Nat.le_of_ble_eq_true rfl, Nat.le_of_ble_eq_true rfl, Nat.le_of_ble_eq_true rfl, Nat.le_of_ble_eq_true rfl⟩ (Nat.le_of_ble_eq_true rfl) rfl rfl rfl rfl ?_
  refine zi_iadd d_De_runYears_129 ?_
  refine zi_istore [(6, .int (x6 + q_2.1)), (0, .ref a0), (1, .ref a1), (3, .int x3), (4, .long y4), (7, .int x7)] d_De_runYears_130 (by decide) rfl ?_
  refine zi_iinc 5 (x7 + 1) [(7, .int (x7 + 1)), (6, .int (x6 + q_2.1)), (0, .ref a0), (1, .ref a1), (3, .int x3), (4, .long y4)] d_De_runYears_132 rfl rfl (by decide) rfl ?_
  refine zi_goto (tgt := 10) d_De_runYears_135 rfl ?_
  refine zi_lo [(0, .ref a0), (1, .ref a1), (3, .int x3), (4, .long y4), (6, .int (x6 + q_2.1)), (7, .int (x7 + 1))] [2, 3, 4, 5, 1, 0] rfl ?_
  exact hr10 a0 a1 x3 y4 (x6 + q_2.1) (x7 + 1) q_2.2 h
theorem K_De_runYears_L10 (n : Nat) (E : zE) (S : zS) (r10 : Nat × Nat × Int32 × Int64 × Int32 × Int32 × zH → Option (Int32 × zH)) (a0 : Nat) (a1 : Nat) (x3 : Int32) (y4 : Int64) (x6 : Int32) (x7 : Int32) (M : zH) (r : Int32) (M' : zH) (hr10 : ∀ (a0 : Nat) (a1 : Nat) (x3 : Int32) (y4 : Int64) (x6 : Int32) (x7 : Int32) (M : zH), r10 (a0, a1, x3, y4, x6, x7, M) = some (r, M') → zG E Y_De_runYears (some (.int r), S, M') 10 [(0, .ref a0), (1, .ref a1), (3, .int x3), (4, .long y4), (6, .int x6), (7, .int x7)] [] S M 0 0) (h : F_De_runYears_L10 n E S r10 a0 a1 x3 y4 x6 x7 M = some (r, M')) : zG E Y_De_runYears (some (.int r), S, M') 10 [(0, .ref a0), (1, .ref a1), (3, .int x3), (4, .long y4), (6, .int x6), (7, .int x7)] [] S M 0 0 := by
  unfold F_De_runYears_L10 at h
  refine zi_iload 5 d_De_runYears_10 rfl ?_
  refine zi_iload_n 2 d_De_runYears_12 rfl ?_
  refine zi_icmp_ge (tgt := 138) d_De_runYears_13 rfl (fun c_3 => ?_) (fun c_3 => ?_)
  · rw [if_pos c_3] at h
    refine zi_iload 4 d_De_runYears_138 rfl ?_
    cases h
    exact zo_ret d_De_runYears_140 (Nat.le_of_ble_eq_true rfl) (Nat.le_of_ble_eq_true rfl) rfl
  · rw [if_neg c_3] at h
    refine zi_aload_n 1 d_De_runYears_16 rfl ?_
    obtain ⟨b_4, eb_4, h⟩ := zbind h
    refine zo_getR 20 zkd_3 9 d_De_runYears_17 eb_4 rfl tw_83 rfl ?_
    refine zi_iconst 0 d_De_runYears_20 rfl ?_
    obtain ⟨v_5, ev_5, h⟩ := zbind h
    refine zo_iald 22 d_De_runYears_21 ev_5 rfl ?_
    refine zi_sipush 999 d_De_runYears_22 rfl ?_
    refine zi_icmp_ge (tgt := 138) d_De_runYears_25 rfl (fun c_6 => ?_) (fun c_6 => ?_)
    · rw [if_pos c_6] at h
      refine zi_iload 4 d_De_runYears_138 rfl ?_
      cases h
      exact zo_ret d_De_runYears_140 (Nat.le_of_ble_eq_true rfl) (Nat.le_of_ble_eq_true rfl) rfl
    · rw [if_neg c_6] at h
      refine zi_lload 3 d_De_runYears_28 rfl ?_
      obtain ⟨q_7, eq_7, h⟩ := zbind h
      refine zo_stat (k' := 0) (n' := 0) 33 [.long y4] [] [.long q_7.1] (C_De_nextDraw n E S y4 M q_7.1 q_7.2 eq_7) d_De_runYears_30 tw_1167 tw_1165 tw_1166 tw_10 dd_De_nextDraw ⟨Nat.le_of_ble_eq_true rfl, Nat.le_of_ble_eq_true rfl, Nat.le_of_ble_eq_true rfl, Nat.le_of_ble_eq_true rfl⟩ (Nat.le_of_ble_eq_true rfl) rfl rfl rfl rfl ?_
      refine zi_lstore [(4, .long q_7.1), (0, .ref a0), (1, .ref a1), (3, .int x3), (6, .int x6), (7, .int x7)] d_De_runYears_33 (by decide) rfl ?_
      refine zi_lload 0 d_De_runYears_35 rfl ?_
      refine zi_ldc2 d_De_runYears_37 tw_1171 ?_
      obtain ⟨v_8, ev_8, h⟩ := zbind h
      refine zo_lrem 41 d_De_runYears_40 ev_8 rfl ?_
      refine zi_l2i d_De_runYears_41 ?_
      refine zi_istore [(8, .int v_8.toInt32), (4, .long q_7.1), (0, .ref a0), (1, .ref a1), (3, .int x3), (6, .int x6), (7, .int x7)] d_De_runYears_42 (by decide) rfl ?_
      refine zi_lload 1 d_De_runYears_44 rfl ?_
      obtain ⟨q_9, eq_9, h⟩ := zbind h
      refine zo_stat (k' := 0) (n' := 0) 49 [.long q_7.1] [] [.long q_9.1] (C_De_nextDraw n E S q_7.1 q_7.2 q_9.1 q_9.2 eq_9) d_De_runYears_46 tw_1167 tw_1165 tw_1166 tw_10 dd_De_nextDraw ⟨Nat.le_of_ble_eq_true rfl, Nat.le_of_ble_eq_true rfl, Nat.le_of_ble_eq_true rfl, Nat.le_of_ble_eq_true rfl⟩ (Nat.le_of_ble_eq_true rfl) rfl rfl rfl rfl ?_
      refine zi_lstore [(4, .long q_9.1), (8, .int v_8.toInt32), (0, .ref a0), (1, .ref a1), (3, .int x3), (6, .int x6), (7, .int x7)] d_De_runYears_49 (by decide) rfl ?_
      refine zi_iload 1 d_De_runYears_51 rfl ?_
      refine zi_bipush 8 d_De_runYears_53 rfl ?_
      refine zi_imul d_De_runYears_55 ?_
      refine zi_lload 0 d_De_runYears_56 rfl ?_
      refine zi_ldc2 d_De_runYears_58 tw_1172 ?_
      obtain ⟨v_10, ev_10, h⟩ := zbind h
      refine zo_lrem 62 d_De_runYears_61 ev_10 rfl ?_
      refine zi_l2i d_De_runYears_62 ?_
      refine zi_iadd d_De_runYears_63 ?_
      refine zi_istore [(9, .int ((v_8.toInt32 * 8) + v_10.toInt32)), (4, .long q_9.1), (8, .int v_8.toInt32), (0, .ref a0), (1, .ref a1), (3, .int x3), (6, .int x6), (7, .int x7)] d_De_runYears_64 (by decide) rfl ?_
      refine zi_lload 1 d_De_runYears_66 rfl ?_
      obtain ⟨q_11, eq_11, h⟩ := zbind h
      refine zo_stat (k' := 0) (n' := 0) 71 [.long q_9.1] [] [.long q_11.1] (C_De_nextDraw n E S q_9.1 q_9.2 q_11.1 q_11.2 eq_11) d_De_runYears_68 tw_1167 tw_1165 tw_1166 tw_10 dd_De_nextDraw ⟨Nat.le_of_ble_eq_true rfl, Nat.le_of_ble_eq_true rfl, Nat.le_of_ble_eq_true rfl, Nat.le_of_ble_eq_true rfl⟩ (Nat.le_of_ble_eq_true rfl) rfl rfl rfl rfl ?_
      refine zi_lstore [(4, .long q_11.1), (9, .int ((v_8.toInt32 * 8) + v_10.toInt32)), (8, .int v_8.toInt32), (0, .ref a0), (1, .ref a1), (3, .int x3), (6, .int x6), (7, .int x7)] d_De_runYears_71 (by decide) rfl ?_
      refine zi_lload 0 d_De_runYears_73 rfl ?_
      refine zi_ldc2 d_De_runYears_75 tw_1173 ?_
      obtain ⟨v_12, ev_12, h⟩ := zbind h
      refine zo_lrem 79 d_De_runYears_78 ev_12 rfl ?_
      refine zi_l2i d_De_runYears_79 ?_
      refine zi_istore [(10, .int v_12.toInt32), (4, .long q_11.1), (9, .int ((v_8.toInt32 * 8) + v_10.toInt32)), (8, .int v_8.toInt32), (0, .ref a0), (1, .ref a1), (3, .int x3), (6, .int x6), (7, .int x7)] d_De_runYears_80 (by decide) rfl ?_
      refine zi_iload 0 d_De_runYears_82 rfl ?_
      refine zi_if_ne (tgt := 97) d_De_runYears_84 rfl (fun c_13 => ?_) (fun c_13 => ?_)
      · rw [if_neg c_13] at h
        refine zi_iload 0 d_De_runYears_97 rfl ?_
        refine zi_iconst 1 d_De_runYears_99 rfl ?_
        refine zi_icmp_ne (tgt := 122) d_De_runYears_100 rfl (fun c_15 => ?_) (fun c_15 => ?_)
        · rw [if_neg c_15] at h
          refine zi_lo [(0, .ref a0), (1, .ref a1), (3, .int x3), (4, .long q_11.1), (6, .int x6), (7, .int x7)] [4, 5, 6, 1, 7, 8] rfl ?_
          exact K_De_runYears_b122 n E S r10 a0 a1 x3 q_11.1 x6 x7 q_11.2 r M' hr10 h
        · rw [if_pos c_15] at h
          refine zi_aload_n 5 d_De_runYears_103 rfl ?_
          obtain ⟨b_16, eb_16, h⟩ := zbind h
          refine zo_getR 107 zkd_3 0 d_De_runYears_104 eb_16 rfl tw_44 rfl ?_
          refine zi_iload 2 d_De_runYears_107 rfl ?_
          obtain ⟨v_17, ev_17, h⟩ := zbind h
          refine zo_iald 110 d_De_runYears_109 ev_17 rfl ?_
          refine zi_bipush 9 d_De_runYears_110 rfl ?_
          refine zi_icmp_ge (tgt := 122) d_De_runYears_112 rfl (fun c_18 => ?_) (fun c_18 => ?_)
          · rw [if_pos c_18] at h
            refine zi_lo [(0, .ref a0), (1, .ref a1), (3, .int x3), (4, .long q_11.1), (6, .int x6), (7, .int x7)] [4, 5, 6, 1, 7, 8] rfl ?_
            exact K_De_runYears_b122 n E S r10 a0 a1 x3 q_11.1 x6 x7 q_11.2 r M' hr10 h
          · rw [if_neg c_18] at h
            refine zi_aload_n 5 d_De_runYears_115 rfl ?_
            refine zi_iload 2 d_De_runYears_116 rfl ?_
            obtain ⟨q_19, eq_19, h⟩ := zbind h
            refine zo_stat (k' := 0) (n' := 0) 121 [.ref a1, .int ((v_8.toInt32 * 8) + v_10.toInt32)] [] [.int q_19.1] (C_De_widen n E S a1 ((v_8.toInt32 * 8) + v_10.toInt32) q_11.2 q_19.1 q_19.2 eq_19) d_De_runYears_118 tw_914 tw_912 tw_913 tw_10 dd_De_widen ⟨Nat.le_of_ble_eq_true rfl, Nat.le_of_ble_eq_true rfl, Nat.le_of_ble_eq_true rfl, Nat.le_of_ble_eq_true rfl⟩ (Nat.le_of_ble_eq_true rfl) rfl rfl rfl rfl ?_
            refine zi_pop d_De_runYears_121 rfl ?_
            refine zi_lo [(0, .ref a0), (1, .ref a1), (3, .int x3), (4, .long q_11.1), (6, .int x6), (7, .int x7)] [4, 5, 6, 1, 7, 8] rfl ?_
            exact K_De_runYears_b122 n E S r10 a0 a1 x3 q_11.1 x6 x7 q_19.2 r M' hr10 h
      · rw [if_pos c_13] at h
        refine zi_aload_n 5 d_De_runYears_87 rfl ?_
        refine zi_iload 2 d_De_runYears_88 rfl ?_
        obtain ⟨q_14, eq_14, h⟩ := zbind h
        refine zo_stat (k' := 0) (n' := 0) 93 [.ref a1, .int ((v_8.toInt32 * 8) + v_10.toInt32)] [] [.int q_14.1] (C_De_changeBlock n E S a1 ((v_8.toInt32 * 8) + v_10.toInt32) q_11.2 q_14.1 q_14.2 eq_14) d_De_runYears_90 tw_911 tw_909 tw_910 tw_10 dd_De_changeBlock ⟨Nat.le_of_ble_eq_true rfl, Nat.le_of_ble_eq_true rfl, Nat.le_of_ble_eq_true rfl, Nat.le_of_ble_eq_true rfl⟩ (Nat.le_of_ble_eq_true rfl) rfl rfl rfl rfl ?_
        refine zi_pop d_De_runYears_93 rfl ?_
        refine zi_goto (tgt := 122) d_De_runYears_94 rfl ?_
        refine zi_lo [(0, .ref a0), (1, .ref a1), (3, .int x3), (4, .long q_11.1), (6, .int x6), (7, .int x7)] [4, 5, 6, 1, 7, 8] rfl ?_
        exact K_De_runYears_b122 n E S r10 a0 a1 x3 q_11.1 x6 x7 q_14.2 r M' hr10 h
theorem K_De_runYears_b10 (n : Nat) (E : zE) (S : zS) (a0 : Nat) (a1 : Nat) (x3 : Int32) (y4 : Int64) (x6 : Int32) (x7 : Int32) (M : zH) (r : Int32) (M' : zH)  (h : F_De_runYears_b10 n E S (a0, a1, x3, y4, x6, x7, M) = some (r, M')) : zG E Y_De_runYears (some (.int r), S, M') 10 [(0, .ref a0), (1, .ref a1), (3, .int x3), (4, .long y4), (6, .int x6), (7, .int x7)] [] S M 0 0 := by
  have key : ∀ (k : Nat) (a0 : Nat) (a1 : Nat) (x3 : Int32) (y4 : Int64) (x6 : Int32) (x7 : Int32) (M : zH), zfix (fun r10 s => F_De_runYears_L10 n E S r10 s.1 s.2.1 s.2.2.1 s.2.2.2.1 s.2.2.2.2.1 s.2.2.2.2.2.1 s.2.2.2.2.2.2) k (a0, a1, x3, y4, x6, x7, M) = some (r, M') → zG E Y_De_runYears (some (.int r), S, M') 10 [(0, .ref a0), (1, .ref a1), (3, .int x3), (4, .long y4), (6, .int x6), (7, .int x7)] [] S M 0 0 := by
    intro k
    induction k with
    | zero => intro a0 a1 x3 y4 x6 x7 M h; cases h
    | succ k ih => intro a0 a1 x3 y4 x6 x7 M h; exact K_De_runYears_L10 n E S _ a0 a1 x3 y4 x6 x7 M r M'  (fun a0 a1 x3 y4 x6 x7 M h => ih a0 a1 x3 y4 x6 x7 M h) h
  exact key n a0 a1 x3 y4 x6 x7 M h
theorem K_De_runYears (n : Nat) (E : zE) (S : zS) (a0 : Nat) (a1 : Nat) (x2 : Int32) (x3 : Int32) (M : zH) (r : Int32) (M' : zH)  (h : F_De_runYears n E S a0 a1 x2 x3 M = some (r, M')) : zG E Y_De_runYears (some (.int r), S, M') 0 [(0, .ref a0), (1, .ref a1), (2, .int x2), (3, .int x3)] [] S M 0 0 := by
  unfold F_De_runYears at h
  refine zi_iload_n 2 d_De_runYears_0 rfl ?_
  refine zi_i2l d_De_runYears_1 ?_
  refine zi_lstore [(4, .long x2.toInt64), (0, .ref a0), (1, .ref a1), (2, .int x2), (3, .int x3)] d_De_runYears_2 (by decide) rfl ?_
  refine zi_iconst 0 d_De_runYears_4 rfl ?_
  refine zi_istore [(6, .int 0), (4, .long x2.toInt64), (0, .ref a0), (1, .ref a1), (2, .int x2), (3, .int x3)] d_De_runYears_5 (by decide) rfl ?_
  refine zi_iconst 0 d_De_runYears_7 rfl ?_
  refine zi_istore [(7, .int 0), (6, .int 0), (4, .long x2.toInt64), (0, .ref a0), (1, .ref a1), (2, .int x2), (3, .int x3)] d_De_runYears_8 (by decide) rfl ?_
  refine zi_lo [(0, .ref a0), (1, .ref a1), (3, .int x3), (4, .long x2.toInt64), (6, .int 0), (7, .int 0)] [3, 4, 6, 2, 1, 0] rfl ?_
  exact K_De_runYears_b10 n E S a0 a1 x3 x2.toInt64 0 0 M r M'  h
theorem C_De_runYears (n : Nat) (E : zE) (S : zS) (a0 : Nat) (a1 : Nat) (x2 : Int32) (x3 : Int32) (M : zH) (r : Int32) (M' : zH) (h : F_De_runYears n E S a0 a1 x2 x3 M = some (r, M')) : zC E Y_De_runYears [.ref a0, .ref a1, .int x2, .int x3] S M (some (.int r), S, M') :=
  zC.of (Or.inl (show plainName "NightColander$Deeds" = true by decide)) (Nat.le_of_ble_eq_true rfl) (trivial) (K_De_runYears n E S a0 a1 x2 x3 M r M' h)
