/-! METHODS (printed by gen/build.py): Pt_copyFrom De_changeBlock Ni_turnAll De_letHourPass De_move De_refusalOf De_widen Pt_add De_perform Ni_allLevels Ru_findWords Ru_run -/
theorem d_Pt_copyFrom_0 : decode (yB Y_Pt_copyFrom) 0 = .ok (.aload_n 1, 1) := by decide +kernel
theorem d_Pt_copyFrom_1 : decode (yB Y_Pt_copyFrom) 1 = .ok (.getfield 11, 3) := by decide +kernel
theorem d_Pt_copyFrom_4 : decode (yB Y_Pt_copyFrom) 4 = .ok (.iconst 0, 1) := by decide +kernel
theorem d_Pt_copyFrom_5 : decode (yB Y_Pt_copyFrom) 5 = .ok (.aload_n 0, 1) := by decide +kernel
theorem d_Pt_copyFrom_6 : decode (yB Y_Pt_copyFrom) 6 = .ok (.getfield 11, 3) := by decide +kernel
theorem d_Pt_copyFrom_9 : decode (yB Y_Pt_copyFrom) 9 = .ok (.iconst 0, 1) := by decide +kernel
theorem d_Pt_copyFrom_10 : decode (yB Y_Pt_copyFrom) 10 = .ok (.aload_n 0, 1) := by decide +kernel
theorem d_Pt_copyFrom_11 : decode (yB Y_Pt_copyFrom) 11 = .ok (.getfield 11, 3) := by decide +kernel
theorem d_Pt_copyFrom_14 : decode (yB Y_Pt_copyFrom) 14 = .ok (.arraylength, 1) := by decide +kernel
theorem d_Pt_copyFrom_15 : decode (yB Y_Pt_copyFrom) 15 = .ok (.invokestatic 19, 3) := by decide +kernel
theorem d_Pt_copyFrom_18 : decode (yB Y_Pt_copyFrom) 18 = .ok (.aload_n 0, 1) := by decide +kernel
theorem d_Pt_copyFrom_19 : decode (yB Y_Pt_copyFrom) 19 = .ok (.aload_n 1, 1) := by decide +kernel
theorem d_Pt_copyFrom_20 : decode (yB Y_Pt_copyFrom) 20 = .ok (.getfield 15, 3) := by decide +kernel
theorem d_Pt_copyFrom_23 : decode (yB Y_Pt_copyFrom) 23 = .ok (.putfield 15, 3) := by decide +kernel
theorem d_Pt_copyFrom_26 : decode (yB Y_Pt_copyFrom) 26 = .ok (.return_, 1) := by decide +kernel
def F_Pt_copyFrom (n : Nat) (E : zE) (S : zS) (a0 : Nat) (a1 : Nat) (M : zH) : Option (zH) :=
  (zgR S a1 6 0).bind fun b1 =>
  (zgR S a0 6 0).bind fun b2 =>
  (zlen S 12 b2).bind fun v3 =>
  (zcpy S M b1 0 b2 0 v3).bind fun m4 =>
  (zgI S m4 a1 6 1).bind fun v5 =>
  (zpI S m4 a0 6 1 v5).bind fun m6 =>
  some (m6)
theorem K_Pt_copyFrom (n : Nat) (E : zE) (S : zS) (a0 : Nat) (a1 : Nat) (M : zH) (M' : zH)  (h : F_Pt_copyFrom n E S a0 a1 M = some M') : zG E Y_Pt_copyFrom (none, S, M') 0 [(0, .ref a0), (1, .ref a1)] [] S M 0 0 := by
  unfold F_Pt_copyFrom at h
  refine zi_aload_n 1 d_Pt_copyFrom_0 rfl ?_
  obtain ⟨b1, eb1, h⟩ := zbind h
  refine zo_getR 4 zkd_6 0 d_Pt_copyFrom_1 eb1 rfl tw_138 rfl ?_
  refine zi_iconst 0 d_Pt_copyFrom_4 rfl ?_
  refine zi_aload_n 0 d_Pt_copyFrom_5 rfl ?_
  obtain ⟨b2, eb2, h⟩ := zbind h
  refine zo_getR 9 zkd_6 0 d_Pt_copyFrom_6 eb2 rfl tw_138 rfl ?_
  refine zi_iconst 0 d_Pt_copyFrom_9 rfl ?_
  refine zi_aload_n 0 d_Pt_copyFrom_10 rfl ?_
  refine zo_getR 14 zkd_6 0 d_Pt_copyFrom_11 eb2 rfl tw_138 rfl ?_
  obtain ⟨v3, ev3, h⟩ := zbind h
  refine zo_alen 15 d_Pt_copyFrom_14 ev3 (by decide) rfl ?_
  obtain ⟨m4, em4, h⟩ := zbind h
  refine zo_cpy 18 d_Pt_copyFrom_15 em4 tw_873 zcpw rfl (by decide) (Nat.le_of_ble_eq_true rfl) ?_
  refine zi_aload_n 0 d_Pt_copyFrom_18 rfl ?_
  refine zi_aload_n 1 d_Pt_copyFrom_19 rfl ?_
  obtain ⟨v5, ev5, h⟩ := zbind h
  refine zo_getI 23 zkd_6 1 d_Pt_copyFrom_20 ev5 rfl tw_139 rfl ?_
  obtain ⟨m6, em6, h⟩ := zbind h
  refine zo_putI 26 zkd_6 1 d_Pt_copyFrom_23 em6 rfl rfl rfl tw_139 rfl ?_
  cases h
  exact zo_ret d_Pt_copyFrom_26 (Nat.le_of_ble_eq_true rfl) (Nat.le_of_ble_eq_true rfl) rfl
theorem C_Pt_copyFrom (n : Nat) (E : zE) (S : zS) (a0 : Nat) (a1 : Nat) (M : zH) (M' : zH) (h : F_Pt_copyFrom n E S a0 a1 M = some M') : zC E Y_Pt_copyFrom [.ref a0, .ref a1] S M (none, S, M') :=
  zC.of (Or.inl (show plainName "NightColander$Past" = true by decide)) (Nat.le_of_ble_eq_true rfl) (trivial) (K_Pt_copyFrom n E S a0 a1 M M' h)
theorem d_De_changeBlock_0 : decode (yB Y_De_changeBlock) 0 = .ok (.aload_n 0, 1) := by decide +kernel
theorem d_De_changeBlock_1 : decode (yB Y_De_changeBlock) 1 = .ok (.getfield 94, 3) := by decide +kernel
theorem d_De_changeBlock_4 : decode (yB Y_De_changeBlock) 4 = .ok (.iload_n 1, 1) := by decide +kernel
theorem d_De_changeBlock_5 : decode (yB Y_De_changeBlock) 5 = .ok (.aload_n 0, 1) := by decide +kernel
theorem d_De_changeBlock_6 : decode (yB Y_De_changeBlock) 6 = .ok (.getfield 94, 3) := by decide +kernel
theorem d_De_changeBlock_9 : decode (yB Y_De_changeBlock) 9 = .ok (.iload_n 1, 1) := by decide +kernel
theorem d_De_changeBlock_10 : decode (yB Y_De_changeBlock) 10 = .ok (.baload, 1) := by decide +kernel
theorem d_De_changeBlock_11 : decode (yB Y_De_changeBlock) 11 = .ok (.ifCond .ne 7, 3) := by decide +kernel
theorem d_De_changeBlock_14 : decode (yB Y_De_changeBlock) 14 = .ok (.iconst 1, 1) := by decide +kernel
theorem d_De_changeBlock_15 : decode (yB Y_De_changeBlock) 15 = .ok (.goto 4, 3) := by decide +kernel
theorem d_De_changeBlock_18 : decode (yB Y_De_changeBlock) 18 = .ok (.iconst 0, 1) := by decide +kernel
theorem d_De_changeBlock_19 : decode (yB Y_De_changeBlock) 19 = .ok (.bastore, 1) := by decide +kernel
theorem d_De_changeBlock_20 : decode (yB Y_De_changeBlock) 20 = .ok (.aload_n 0, 1) := by decide +kernel
theorem d_De_changeBlock_21 : decode (yB Y_De_changeBlock) 21 = .ok (.getfield 94, 3) := by decide +kernel
theorem d_De_changeBlock_24 : decode (yB Y_De_changeBlock) 24 = .ok (.iload_n 1, 1) := by decide +kernel
theorem d_De_changeBlock_25 : decode (yB Y_De_changeBlock) 25 = .ok (.baload, 1) := by decide +kernel
theorem d_De_changeBlock_26 : decode (yB Y_De_changeBlock) 26 = .ok (.ifCond .eq 7, 3) := by decide +kernel
theorem d_De_changeBlock_29 : decode (yB Y_De_changeBlock) 29 = .ok (.iconst 1, 1) := by decide +kernel
theorem d_De_changeBlock_30 : decode (yB Y_De_changeBlock) 30 = .ok (.goto 4, 3) := by decide +kernel
theorem d_De_changeBlock_33 : decode (yB Y_De_changeBlock) 33 = .ok (.iconst 0, 1) := by decide +kernel
theorem d_De_changeBlock_34 : decode (yB Y_De_changeBlock) 34 = .ok (.ireturn, 1) := by decide +kernel
def F_De_changeBlock_b19 (n : Nat) (E : zE) (S : zS) (a0 : Nat) (x1 : Int32) (s0 : Int32) (s1 : Int32) (u2 : Nat) (M : zH) : Option (Int32 × zH) :=
  (zstZ S M u2 s1 s0).bind fun m1 =>
  (zgR S a0 3 1).bind fun b2 =>
  (zldZ S m1 b2 x1).bind fun v3 =>
  if v3 = 0 then
    some (0, m1)
  else
    some (1, m1)
def F_De_changeBlock (n : Nat) (E : zE) (S : zS) (a0 : Nat) (x1 : Int32) (M : zH) : Option (Int32 × zH) :=
  (zgR S a0 3 1).bind fun b5 =>
  (zldZ S M b5 x1).bind fun v6 =>
  if v6 = 0 then
    F_De_changeBlock_b19 n E S a0 x1 1 x1 b5 M
  else
    F_De_changeBlock_b19 n E S a0 x1 0 x1 b5 M
theorem K_De_changeBlock_b19 (n : Nat) (E : zE) (S : zS) (a0 : Nat) (x1 : Int32) (s0 : Int32) (s1 : Int32) (u2 : Nat) (M : zH) (r : Int32) (M' : zH)  (h : F_De_changeBlock_b19 n E S a0 x1 s0 s1 u2 M = some (r, M')) : zG E Y_De_changeBlock (some (.int r), S, M') 19 [(0, .ref a0), (1, .int x1)] [.int s0, .int s1, .ref u2] S M 0 0 := by
  unfold F_De_changeBlock_b19 at h
  obtain ⟨m1, em1, h⟩ := zbind h
  refine zo_zast 20 d_De_changeBlock_19 em1 rfl ?_
  refine zi_aload_n 0 d_De_changeBlock_20 rfl ?_
  obtain ⟨b2, eb2, h⟩ := zbind h
  refine zo_getR 24 zkd_3 1 d_De_changeBlock_21 eb2 rfl tw_49 rfl ?_
  refine zi_iload_n 1 d_De_changeBlock_24 rfl ?_
  obtain ⟨v3, ev3, h⟩ := zbind h
  refine zo_zald 26 d_De_changeBlock_25 ev3 rfl ?_
  refine zi_if_eq (tgt := 33) d_De_changeBlock_26 rfl (fun c4 => ?_) (fun c4 => ?_)
  · rw [if_pos c4] at h
    refine zi_iconst 0 d_De_changeBlock_33 rfl ?_
    cases h
    exact zo_ret d_De_changeBlock_34 (Nat.le_of_ble_eq_true rfl) (Nat.le_of_ble_eq_true rfl) rfl
  · rw [if_neg c4] at h
    refine zi_iconst 1 d_De_changeBlock_29 rfl ?_
    refine zi_goto (tgt := 34) d_De_changeBlock_30 rfl ?_
    cases h
    exact zo_ret d_De_changeBlock_34 (Nat.le_of_ble_eq_true rfl) (Nat.le_of_ble_eq_true rfl) rfl
theorem K_De_changeBlock (n : Nat) (E : zE) (S : zS) (a0 : Nat) (x1 : Int32) (M : zH) (r : Int32) (M' : zH)  (h : F_De_changeBlock n E S a0 x1 M = some (r, M')) : zG E Y_De_changeBlock (some (.int r), S, M') 0 [(0, .ref a0), (1, .int x1)] [] S M 0 0 := by
  unfold F_De_changeBlock at h
  refine zi_aload_n 0 d_De_changeBlock_0 rfl ?_
  obtain ⟨b5, eb5, h⟩ := zbind h
  refine zo_getR 4 zkd_3 1 d_De_changeBlock_1 eb5 rfl tw_49 rfl ?_
  refine zi_iload_n 1 d_De_changeBlock_4 rfl ?_
  refine zi_aload_n 0 d_De_changeBlock_5 rfl ?_
  refine zo_getR 9 zkd_3 1 d_De_changeBlock_6 eb5 rfl tw_49 rfl ?_
  refine zi_iload_n 1 d_De_changeBlock_9 rfl ?_
  obtain ⟨v6, ev6, h⟩ := zbind h
  refine zo_zald 11 d_De_changeBlock_10 ev6 rfl ?_
  refine zi_if_ne (tgt := 18) d_De_changeBlock_11 rfl (fun c7 => ?_) (fun c7 => ?_)
  · rw [if_neg c7] at h
    refine zi_iconst 0 d_De_changeBlock_18 rfl ?_
    refine zi_lo [(0, .ref a0), (1, .int x1)] [0, 1] rfl ?_
    exact K_De_changeBlock_b19 n E S a0 x1 0 x1 b5 M r M'  h
  · rw [if_pos c7] at h
    refine zi_iconst 1 d_De_changeBlock_14 rfl ?_
    refine zi_goto (tgt := 19) d_De_changeBlock_15 rfl ?_
    refine zi_lo [(0, .ref a0), (1, .int x1)] [0, 1] rfl ?_
    exact K_De_changeBlock_b19 n E S a0 x1 1 x1 b5 M r M'  h
theorem C_De_changeBlock (n : Nat) (E : zE) (S : zS) (a0 : Nat) (x1 : Int32) (M : zH) (r : Int32) (M' : zH) (h : F_De_changeBlock n E S a0 x1 M = some (r, M')) : zC E Y_De_changeBlock [.ref a0, .int x1] S M (some (.int r), S, M') :=
  zC.of (Or.inl (show plainName "NightColander$Deeds" = true by decide)) (Nat.le_of_ble_eq_true rfl) (trivial) (K_De_changeBlock n E S a0 x1 M r M' h)
theorem d_Ni_turnAll_0 : decode (yB Y_Ni_turnAll) 0 = .ok (.iconst 0, 1) := by decide +kernel
theorem d_Ni_turnAll_1 : decode (yB Y_Ni_turnAll) 1 = .ok (.istore_n 2, 1) := by decide +kernel
theorem d_Ni_turnAll_2 : decode (yB Y_Ni_turnAll) 2 = .ok (.iload_n 2, 1) := by decide +kernel
theorem d_Ni_turnAll_3 : decode (yB Y_Ni_turnAll) 3 = .ok (.iconst 4, 1) := by decide +kernel
theorem d_Ni_turnAll_4 : decode (yB Y_Ni_turnAll) 4 = .ok (.if_icmp .ge 32, 3) := by decide +kernel
theorem d_Ni_turnAll_7 : decode (yB Y_Ni_turnAll) 7 = .ok (.aload_n 0, 1) := by decide +kernel
theorem d_Ni_turnAll_8 : decode (yB Y_Ni_turnAll) 8 = .ok (.getfield 19, 3) := by decide +kernel
theorem d_Ni_turnAll_11 : decode (yB Y_Ni_turnAll) 11 = .ok (.iload_n 2, 1) := by decide +kernel
theorem d_Ni_turnAll_12 : decode (yB Y_Ni_turnAll) 12 = .ok (.aload_n 0, 1) := by decide +kernel
theorem d_Ni_turnAll_13 : decode (yB Y_Ni_turnAll) 13 = .ok (.getfield 19, 3) := by decide +kernel
theorem d_Ni_turnAll_16 : decode (yB Y_Ni_turnAll) 16 = .ok (.iload_n 2, 1) := by decide +kernel
theorem d_Ni_turnAll_17 : decode (yB Y_Ni_turnAll) 17 = .ok (.iaload, 1) := by decide +kernel
theorem d_Ni_turnAll_18 : decode (yB Y_Ni_turnAll) 18 = .ok (.iload_n 1, 1) := by decide +kernel
theorem d_Ni_turnAll_19 : decode (yB Y_Ni_turnAll) 19 = .ok (.iload_n 2, 1) := by decide +kernel
theorem d_Ni_turnAll_20 : decode (yB Y_Ni_turnAll) 20 = .ok (.iconst 1, 1) := by decide +kernel
theorem d_Ni_turnAll_21 : decode (yB Y_Ni_turnAll) 21 = .ok (.iadd, 1) := by decide +kernel
theorem d_Ni_turnAll_22 : decode (yB Y_Ni_turnAll) 22 = .ok (.imul, 1) := by decide +kernel
theorem d_Ni_turnAll_23 : decode (yB Y_Ni_turnAll) 23 = .ok (.iadd, 1) := by decide +kernel
theorem d_Ni_turnAll_24 : decode (yB Y_Ni_turnAll) 24 = .ok (.bipush 8, 2) := by decide +kernel
theorem d_Ni_turnAll_26 : decode (yB Y_Ni_turnAll) 26 = .ok (.invokestatic 78, 3) := by decide +kernel
theorem d_Ni_turnAll_29 : decode (yB Y_Ni_turnAll) 29 = .ok (.iastore, 1) := by decide +kernel
theorem d_Ni_turnAll_30 : decode (yB Y_Ni_turnAll) 30 = .ok (.iinc 2 1, 3) := by decide +kernel
theorem d_Ni_turnAll_33 : decode (yB Y_Ni_turnAll) 33 = .ok (.goto (-31), 3) := by decide +kernel
theorem d_Ni_turnAll_36 : decode (yB Y_Ni_turnAll) 36 = .ok (.aload_n 0, 1) := by decide +kernel
theorem d_Ni_turnAll_37 : decode (yB Y_Ni_turnAll) 37 = .ok (.getfield 40, 3) := by decide +kernel
theorem d_Ni_turnAll_40 : decode (yB Y_Ni_turnAll) 40 = .ok (.iconst 0, 1) := by decide +kernel
theorem d_Ni_turnAll_41 : decode (yB Y_Ni_turnAll) 41 = .ok (.dup2, 1) := by decide +kernel
theorem d_Ni_turnAll_42 : decode (yB Y_Ni_turnAll) 42 = .ok (.iaload, 1) := by decide +kernel
theorem d_Ni_turnAll_43 : decode (yB Y_Ni_turnAll) 43 = .ok (.iload_n 1, 1) := by decide +kernel
theorem d_Ni_turnAll_44 : decode (yB Y_Ni_turnAll) 44 = .ok (.iadd, 1) := by decide +kernel
theorem d_Ni_turnAll_45 : decode (yB Y_Ni_turnAll) 45 = .ok (.iastore, 1) := by decide +kernel
theorem d_Ni_turnAll_46 : decode (yB Y_Ni_turnAll) 46 = .ok (.return_, 1) := by decide +kernel
def F_Ni_turnAll_L2 (n : Nat) (E : zE) (S : zS) (r2 : Nat × Int32 × Int32 × zH → Option (zH)) (a0 : Nat) (x1 : Int32) (x2 : Int32) (M : zH) : Option (zH) :=
  if 4 ≤ x2 then
    (zgR S a0 3 9).bind fun b2 =>
    (zldI S M b2 0).bind fun v3 =>
    (zstI S M b2 0 (v3 + x1)).bind fun m4 =>
    some (m4)
  else
    (zgR S a0 3 2).bind fun b5 =>
    (zldI S M b5 x2).bind fun v6 =>
    (F_Jm_floorMod n E S (v6 + (x1 * (x2 + 1))) 8 M).bind fun q7 =>
    (zstI S q7.2 b5 x2 q7.1).bind fun m8 =>
    r2 (a0, x1, x2 + 1, m8)
def F_Ni_turnAll_b2 (n : Nat) (E : zE) (S : zS) : Nat × Int32 × Int32 × zH → Option (zH) := zfix (fun r2 s => F_Ni_turnAll_L2 n E S r2 s.1 s.2.1 s.2.2.1 s.2.2.2) n
def F_Ni_turnAll (n : Nat) (E : zE) (S : zS) (a0 : Nat) (x1 : Int32) (M : zH) : Option (zH) :=
  F_Ni_turnAll_b2 n E S (a0, x1, 0, M)
theorem K_Ni_turnAll_L2 (n : Nat) (E : zE) (S : zS) (r2 : Nat × Int32 × Int32 × zH → Option (zH)) (a0 : Nat) (x1 : Int32) (x2 : Int32) (M : zH) (M' : zH) (hr2 : ∀ (a0 : Nat) (x1 : Int32) (x2 : Int32) (M : zH), r2 (a0, x1, x2, M) = some M' → zG E Y_Ni_turnAll (none, S, M') 2 [(0, .ref a0), (1, .int x1), (2, .int x2)] [] S M 0 0) (h : F_Ni_turnAll_L2 n E S r2 a0 x1 x2 M = some M') : zG E Y_Ni_turnAll (none, S, M') 2 [(0, .ref a0), (1, .int x1), (2, .int x2)] [] S M 0 0 := by
  unfold F_Ni_turnAll_L2 at h
  refine zi_iload_n 2 d_Ni_turnAll_2 rfl ?_
  refine zi_iconst 4 d_Ni_turnAll_3 rfl ?_
  refine zi_icmp_ge (tgt := 36) d_Ni_turnAll_4 rfl (fun c1 => ?_) (fun c1 => ?_)
  · rw [if_pos c1] at h
    refine zi_aload_n 0 d_Ni_turnAll_36 rfl ?_
    obtain ⟨b2, eb2, h⟩ := zbind h
    refine zo_getR 40 zkd_3 9 d_Ni_turnAll_37 eb2 rfl tw_80 rfl ?_
    refine zi_iconst 0 d_Ni_turnAll_40 rfl ?_
    refine zi_dup2 d_Ni_turnAll_41 rfl rfl ?_
    obtain ⟨v3, ev3, h⟩ := zbind h
    refine zo_iald 43 d_Ni_turnAll_42 ev3 rfl ?_
    refine zi_iload_n 1 d_Ni_turnAll_43 rfl ?_
    refine zi_iadd d_Ni_turnAll_44 ?_
    obtain ⟨m4, em4, h⟩ := zbind h
    refine zo_iast 46 d_Ni_turnAll_45 em4 rfl ?_
    cases h
    exact zo_ret d_Ni_turnAll_46 (Nat.le_of_ble_eq_true rfl) (Nat.le_of_ble_eq_true rfl) rfl
  · rw [if_neg c1] at h
    refine zi_aload_n 0 d_Ni_turnAll_7 rfl ?_
    obtain ⟨b5, eb5, h⟩ := zbind h
    refine zo_getR 11 zkd_3 2 d_Ni_turnAll_8 eb5 rfl tw_52 rfl ?_
    refine zi_iload_n 2 d_Ni_turnAll_11 rfl ?_
    refine zi_aload_n 0 d_Ni_turnAll_12 rfl ?_
    refine zo_getR 16 zkd_3 2 d_Ni_turnAll_13 eb5 rfl tw_52 rfl ?_
    refine zi_iload_n 2 d_Ni_turnAll_16 rfl ?_
    obtain ⟨v6, ev6, h⟩ := zbind h
    refine zo_iald 18 d_Ni_turnAll_17 ev6 rfl ?_
    refine zi_iload_n 1 d_Ni_turnAll_18 rfl ?_
    refine zi_iload_n 2 d_Ni_turnAll_19 rfl ?_
    refine zi_iconst 1 d_Ni_turnAll_20 rfl ?_
    refine zi_iadd d_Ni_turnAll_21 ?_
    refine zi_imul d_Ni_turnAll_22 ?_
    refine zi_iadd d_Ni_turnAll_23 ?_
    refine zi_bipush 8 d_Ni_turnAll_24 rfl ?_
    obtain ⟨q7, eq7, h⟩ := zbind h
    refine zo_stat (k' := 0) (n' := 0) 29 [.int (v6 + (x1 * (x2 + 1))), .int 8] [.int x2, .ref b5] [.int q7.1, .int x2, .ref b5] (C_Jm_floorMod n E S (v6 + (x1 * (x2 + 1))) 8 M q7.1 q7.2 eq7) d_Ni_turnAll_26 tw_409 tw_407 tw_408 tw_14 dd_Jm_floorMod ⟨Nat.le_of_ble_eq_true rfl, Nat.le_of_ble_eq_true rfl, Nat.le_of_ble_eq_true rfl, Nat.le_of_ble_eq_true rfl⟩ (Nat.le_of_ble_eq_true rfl) rfl rfl rfl rfl ?_
    obtain ⟨m8, em8, h⟩ := zbind h
    refine zo_iast 30 d_Ni_turnAll_29 em8 rfl ?_
    refine zi_iinc 2 (x2 + 1) [(2, .int (x2 + 1)), (0, .ref a0), (1, .int x1)] d_Ni_turnAll_30 rfl rfl (by decide) rfl ?_
    refine zi_goto (tgt := 2) d_Ni_turnAll_33 rfl ?_
    refine zi_lo [(0, .ref a0), (1, .int x1), (2, .int (x2 + 1))] [1, 2, 0] rfl ?_
    exact hr2 a0 x1 (x2 + 1) m8 h
theorem K_Ni_turnAll_b2 (n : Nat) (E : zE) (S : zS) (a0 : Nat) (x1 : Int32) (x2 : Int32) (M : zH) (M' : zH)  (h : F_Ni_turnAll_b2 n E S (a0, x1, x2, M) = some M') : zG E Y_Ni_turnAll (none, S, M') 2 [(0, .ref a0), (1, .int x1), (2, .int x2)] [] S M 0 0 := by
  have key : ∀ (k : Nat) (a0 : Nat) (x1 : Int32) (x2 : Int32) (M : zH), zfix (fun r2 s => F_Ni_turnAll_L2 n E S r2 s.1 s.2.1 s.2.2.1 s.2.2.2) k (a0, x1, x2, M) = some M' → zG E Y_Ni_turnAll (none, S, M') 2 [(0, .ref a0), (1, .int x1), (2, .int x2)] [] S M 0 0 := by
    intro k
    induction k with
    | zero => intro a0 x1 x2 M h; cases h
    | succ k ih => intro a0 x1 x2 M h; exact K_Ni_turnAll_L2 n E S _ a0 x1 x2 M M'  (fun a0 x1 x2 M h => ih a0 x1 x2 M h) h
  exact key n a0 x1 x2 M h
theorem K_Ni_turnAll (n : Nat) (E : zE) (S : zS) (a0 : Nat) (x1 : Int32) (M : zH) (M' : zH)  (h : F_Ni_turnAll n E S a0 x1 M = some M') : zG E Y_Ni_turnAll (none, S, M') 0 [(0, .ref a0), (1, .int x1)] [] S M 0 0 := by
  unfold F_Ni_turnAll at h
  refine zi_iconst 0 d_Ni_turnAll_0 rfl ?_
  refine zi_istore_n [(2, .int 0), (0, .ref a0), (1, .int x1)] d_Ni_turnAll_1 (by decide) rfl ?_
  refine zi_lo [(0, .ref a0), (1, .int x1), (2, .int 0)] [1, 2, 0] rfl ?_
  exact K_Ni_turnAll_b2 n E S a0 x1 0 M M'  h
theorem C_Ni_turnAll (n : Nat) (E : zE) (S : zS) (a0 : Nat) (x1 : Int32) (M : zH) (M' : zH) (h : F_Ni_turnAll n E S a0 x1 M = some M') : zC E Y_Ni_turnAll [.ref a0, .int x1] S M (none, S, M') :=
  zC.of (Or.inl (show plainName "NightColander$Night" = true by decide)) (Nat.le_of_ble_eq_true rfl) (trivial) (K_Ni_turnAll n E S a0 x1 M M' h)
theorem d_De_letHourPass_0 : decode (yB Y_De_letHourPass) 0 = .ok (.iconst 0, 1) := by decide +kernel
theorem d_De_letHourPass_1 : decode (yB Y_De_letHourPass) 1 = .ok (.istore_n 2, 1) := by decide +kernel
theorem d_De_letHourPass_2 : decode (yB Y_De_letHourPass) 2 = .ok (.iconst 0, 1) := by decide +kernel
theorem d_De_letHourPass_3 : decode (yB Y_De_letHourPass) 3 = .ok (.istore_n 3, 1) := by decide +kernel
theorem d_De_letHourPass_4 : decode (yB Y_De_letHourPass) 4 = .ok (.iload_n 3, 1) := by decide +kernel
theorem d_De_letHourPass_5 : decode (yB Y_De_letHourPass) 5 = .ok (.aload_n 1, 1) := by decide +kernel
theorem d_De_letHourPass_6 : decode (yB Y_De_letHourPass) 6 = .ok (.getfield 98, 3) := by decide +kernel
theorem d_De_letHourPass_9 : decode (yB Y_De_letHourPass) 9 = .ok (.if_icmp .ge 87, 3) := by decide +kernel
theorem d_De_letHourPass_12 : decode (yB Y_De_letHourPass) 12 = .ok (.aload_n 1, 1) := by decide +kernel
theorem d_De_letHourPass_13 : decode (yB Y_De_letHourPass) 13 = .ok (.getfield 102, 3) := by decide +kernel
theorem d_De_letHourPass_16 : decode (yB Y_De_letHourPass) 16 = .ok (.iload_n 3, 1) := by decide +kernel
theorem d_De_letHourPass_17 : decode (yB Y_De_letHourPass) 17 = .ok (.iaload, 1) := by decide +kernel
theorem d_De_letHourPass_18 : decode (yB Y_De_letHourPass) 18 = .ok (.aload_n 1, 1) := by decide +kernel
theorem d_De_letHourPass_19 : decode (yB Y_De_letHourPass) 19 = .ok (.getfield 21, 3) := by decide +kernel
theorem d_De_letHourPass_22 : decode (yB Y_De_letHourPass) 22 = .ok (.iload_n 3, 1) := by decide +kernel
theorem d_De_letHourPass_23 : decode (yB Y_De_letHourPass) 23 = .ok (.iaload, 1) := by decide +kernel
theorem d_De_letHourPass_24 : decode (yB Y_De_letHourPass) 24 = .ok (.isub, 1) := by decide +kernel
theorem d_De_letHourPass_25 : decode (yB Y_De_letHourPass) 25 = .ok (.istore 4, 2) := by decide +kernel
theorem d_De_letHourPass_27 : decode (yB Y_De_letHourPass) 27 = .ok (.iload 4, 2) := by decide +kernel
theorem d_De_letHourPass_29 : decode (yB Y_De_letHourPass) 29 = .ok (.aload_n 0, 1) := by decide +kernel
theorem d_De_letHourPass_30 : decode (yB Y_De_letHourPass) 30 = .ok (.getfield 9, 3) := by decide +kernel
theorem d_De_letHourPass_33 : decode (yB Y_De_letHourPass) 33 = .ok (.aload_n 1, 1) := by decide +kernel
theorem d_De_letHourPass_34 : decode (yB Y_De_letHourPass) 34 = .ok (.aload_n 1, 1) := by decide +kernel
theorem d_De_letHourPass_35 : decode (yB Y_De_letHourPass) 35 = .ok (.getfield 15, 3) := by decide +kernel
theorem d_De_letHourPass_38 : decode (yB Y_De_letHourPass) 38 = .ok (.iload_n 3, 1) := by decide +kernel
theorem d_De_letHourPass_39 : decode (yB Y_De_letHourPass) 39 = .ok (.iaload, 1) := by decide +kernel
theorem d_De_letHourPass_40 : decode (yB Y_De_letHourPass) 40 = .ok (.invokevirtual 105, 3) := by decide +kernel
theorem d_De_letHourPass_43 : decode (yB Y_De_letHourPass) 43 = .ok (.invokestatic 108, 3) := by decide +kernel
theorem d_De_letHourPass_46 : decode (yB Y_De_letHourPass) 46 = .ok (.istore 5, 2) := by decide +kernel
theorem d_De_letHourPass_48 : decode (yB Y_De_letHourPass) 48 = .ok (.aload_n 1, 1) := by decide +kernel
theorem d_De_letHourPass_49 : decode (yB Y_De_letHourPass) 49 = .ok (.getfield 21, 3) := by decide +kernel
theorem d_De_letHourPass_52 : decode (yB Y_De_letHourPass) 52 = .ok (.iload_n 3, 1) := by decide +kernel
theorem d_De_letHourPass_53 : decode (yB Y_De_letHourPass) 53 = .ok (.dup2, 1) := by decide +kernel
theorem d_De_letHourPass_54 : decode (yB Y_De_letHourPass) 54 = .ok (.iaload, 1) := by decide +kernel
theorem d_De_letHourPass_55 : decode (yB Y_De_letHourPass) 55 = .ok (.iload 5, 2) := by decide +kernel
theorem d_De_letHourPass_57 : decode (yB Y_De_letHourPass) 57 = .ok (.iadd, 1) := by decide +kernel
theorem d_De_letHourPass_58 : decode (yB Y_De_letHourPass) 58 = .ok (.iastore, 1) := by decide +kernel
theorem d_De_letHourPass_59 : decode (yB Y_De_letHourPass) 59 = .ok (.iload_n 2, 1) := by decide +kernel
theorem d_De_letHourPass_60 : decode (yB Y_De_letHourPass) 60 = .ok (.iload 5, 2) := by decide +kernel
theorem d_De_letHourPass_62 : decode (yB Y_De_letHourPass) 62 = .ok (.iadd, 1) := by decide +kernel
theorem d_De_letHourPass_63 : decode (yB Y_De_letHourPass) 63 = .ok (.istore_n 2, 1) := by decide +kernel
theorem d_De_letHourPass_64 : decode (yB Y_De_letHourPass) 64 = .ok (.aload_n 1, 1) := by decide +kernel
theorem d_De_letHourPass_65 : decode (yB Y_De_letHourPass) 65 = .ok (.getfield 21, 3) := by decide +kernel
theorem d_De_letHourPass_68 : decode (yB Y_De_letHourPass) 68 = .ok (.iload_n 3, 1) := by decide +kernel
theorem d_De_letHourPass_69 : decode (yB Y_De_letHourPass) 69 = .ok (.iconst 0, 1) := by decide +kernel
theorem d_De_letHourPass_70 : decode (yB Y_De_letHourPass) 70 = .ok (.aload_n 1, 1) := by decide +kernel
theorem d_De_letHourPass_71 : decode (yB Y_De_letHourPass) 71 = .ok (.getfield 21, 3) := by decide +kernel
theorem d_De_letHourPass_74 : decode (yB Y_De_letHourPass) 74 = .ok (.iload_n 3, 1) := by decide +kernel
theorem d_De_letHourPass_75 : decode (yB Y_De_letHourPass) 75 = .ok (.iaload, 1) := by decide +kernel
theorem d_De_letHourPass_76 : decode (yB Y_De_letHourPass) 76 = .ok (.aload_n 0, 1) := by decide +kernel
theorem d_De_letHourPass_77 : decode (yB Y_De_letHourPass) 77 = .ok (.getfield 9, 3) := by decide +kernel
theorem d_De_letHourPass_80 : decode (yB Y_De_letHourPass) 80 = .ok (.aload_n 1, 1) := by decide +kernel
theorem d_De_letHourPass_81 : decode (yB Y_De_letHourPass) 81 = .ok (.iload_n 3, 1) := by decide +kernel
theorem d_De_letHourPass_82 : decode (yB Y_De_letHourPass) 82 = .ok (.invokevirtual 114, 3) := by decide +kernel
theorem d_De_letHourPass_85 : decode (yB Y_De_letHourPass) 85 = .ok (.isub, 1) := by decide +kernel
theorem d_De_letHourPass_86 : decode (yB Y_De_letHourPass) 86 = .ok (.invokestatic 117, 3) := by decide +kernel
theorem d_De_letHourPass_89 : decode (yB Y_De_letHourPass) 89 = .ok (.iastore, 1) := by decide +kernel
theorem d_De_letHourPass_90 : decode (yB Y_De_letHourPass) 90 = .ok (.iinc 3 1, 3) := by decide +kernel
theorem d_De_letHourPass_93 : decode (yB Y_De_letHourPass) 93 = .ok (.goto (-89), 3) := by decide +kernel
theorem d_De_letHourPass_96 : decode (yB Y_De_letHourPass) 96 = .ok (.aload_n 1, 1) := by decide +kernel
theorem d_De_letHourPass_97 : decode (yB Y_De_letHourPass) 97 = .ok (.iconst 1, 1) := by decide +kernel
theorem d_De_letHourPass_98 : decode (yB Y_De_letHourPass) 98 = .ok (.invokevirtual 120, 3) := by decide +kernel
theorem d_De_letHourPass_101 : decode (yB Y_De_letHourPass) 101 = .ok (.iload_n 2, 1) := by decide +kernel
theorem d_De_letHourPass_102 : decode (yB Y_De_letHourPass) 102 = .ok (.ireturn, 1) := by decide +kernel
def F_De_letHourPass_L4 (n : Nat) (E : zE) (S : zS) (r4 : Nat × Nat × Int32 × Int32 × zH → Option (Int32 × zH)) (a0 : Nat) (a1 : Nat) (x2 : Int32) (x3 : Int32) (M : zH) : Option (Int32 × zH) :=
  (zgI S M a1 3 11).bind fun v1 =>
  if v1 ≤ x3 then
    (F_Ni_turnAll n E S a1 1 M).bind fun q3 =>
    some (x2, q3)
  else
    (zgR S a1 3 3).bind fun b4 =>
    (zldI S M b4 x3).bind fun v5 =>
    (zgR S a1 3 4).bind fun b6 =>
    (zldI S M b6 x3).bind fun v7 =>
    (zgR S a0 0 0).bind fun b8 =>
    (zgR S a1 3 5).bind fun b9 =>
    (zldI S M b9 x3).bind fun v10 =>
    (zck S b8 1).bind fun u11 =>
    (F_Ju_threadsOn n E S b8 a1 v10 M).bind fun q12 =>
    (F_Jm_min n E S (v5 - v7) q12.1 q12.2).bind fun q13 =>
    (zldI S q13.2 b6 x3).bind fun v14 =>
    (zstI S q13.2 b6 x3 (v14 + q13.1)).bind fun m15 =>
    (zldI S m15 b6 x3).bind fun v16 =>
    (F_Ju_leakOf n E S b8 a1 x3 m15).bind fun q17 =>
    (F_Jm_max n E S 0 (v16 - q17.1) q17.2).bind fun q18 =>
    (zstI S q18.2 b6 x3 q18.1).bind fun m19 =>
    r4 (a0, a1, x2 + q13.1, x3 + 1, m19)
def F_De_letHourPass_b4 (n : Nat) (E : zE) (S : zS) : Nat × Nat × Int32 × Int32 × zH → Option (Int32 × zH) := zfix (fun r4 s => F_De_letHourPass_L4 n E S r4 s.1 s.2.1 s.2.2.1 s.2.2.2.1 s.2.2.2.2) n
def F_De_letHourPass (n : Nat) (E : zE) (S : zS) (a0 : Nat) (a1 : Nat) (M : zH) : Option (Int32 × zH) :=
  F_De_letHourPass_b4 n E S (a0, a1, 0, 0, M)
theorem K_De_letHourPass_L4 (n : Nat) (E : zE) (S : zS) (r4 : Nat × Nat × Int32 × Int32 × zH → Option (Int32 × zH)) (a0 : Nat) (a1 : Nat) (x2 : Int32) (x3 : Int32) (M : zH) (r : Int32) (M' : zH) (hr4 : ∀ (a0 : Nat) (a1 : Nat) (x2 : Int32) (x3 : Int32) (M : zH), r4 (a0, a1, x2, x3, M) = some (r, M') → zG E Y_De_letHourPass (some (.int r), S, M') 4 [(0, .ref a0), (1, .ref a1), (2, .int x2), (3, .int x3)] [] S M 0 0) (h : F_De_letHourPass_L4 n E S r4 a0 a1 x2 x3 M = some (r, M')) : zG E Y_De_letHourPass (some (.int r), S, M') 4 [(0, .ref a0), (1, .ref a1), (2, .int x2), (3, .int x3)] [] S M 0 0 := by
  unfold F_De_letHourPass_L4 at h
  refine zi_iload_n 3 d_De_letHourPass_4 rfl ?_
  refine zi_aload_n 1 d_De_letHourPass_5 rfl ?_
  obtain ⟨v1, ev1, h⟩ := zbind h
  refine zo_getI 9 zkd_3 11 d_De_letHourPass_6 ev1 rfl tw_89 rfl ?_
  refine zi_icmp_ge (tgt := 96) d_De_letHourPass_9 rfl (fun c2 => ?_) (fun c2 => ?_)
  · rw [if_pos c2] at h
    refine zi_aload_n 1 d_De_letHourPass_96 rfl ?_
    refine zi_iconst 1 d_De_letHourPass_97 rfl ?_
    obtain ⟨q3, eq3, h⟩ := zbind h
    refine zo_virt (k' := 0) (n' := 0) 101 [.int 1] [] [] zkd_3 (zgI_s ev1).1 (C_Ni_turnAll n E S a1 1 M q3 eq3) d_De_letHourPass_98 tw_929 tw_926 tw_927 tw_928 tw_2 dd_Ni_turnAll ⟨Nat.le_of_ble_eq_true rfl, Nat.le_of_ble_eq_true rfl, Nat.le_of_ble_eq_true rfl, Nat.le_of_ble_eq_true rfl⟩ (Nat.le_of_ble_eq_true rfl) rfl rfl rfl rfl ?_
    refine zi_iload_n 2 d_De_letHourPass_101 rfl ?_
    cases h
    exact zo_ret d_De_letHourPass_102 (Nat.le_of_ble_eq_true rfl) (Nat.le_of_ble_eq_true rfl) rfl
  · rw [if_neg c2] at h
    refine zi_aload_n 1 d_De_letHourPass_12 rfl ?_
    obtain ⟨b4, eb4, h⟩ := zbind h
    refine zo_getR 16 zkd_3 3 d_De_letHourPass_13 eb4 rfl tw_59 rfl ?_
    refine zi_iload_n 3 d_De_letHourPass_16 rfl ?_
    obtain ⟨v5, ev5, h⟩ := zbind h
    refine zo_iald 18 d_De_letHourPass_17 ev5 rfl ?_
    refine zi_aload_n 1 d_De_letHourPass_18 rfl ?_
    obtain ⟨b6, eb6, h⟩ := zbind h
    refine zo_getR 22 zkd_3 4 d_De_letHourPass_19 eb6 rfl tw_61 rfl ?_
    refine zi_iload_n 3 d_De_letHourPass_22 rfl ?_
    obtain ⟨v7, ev7, h⟩ := zbind h
    refine zo_iald 24 d_De_letHourPass_23 ev7 rfl ?_
    refine zi_isub d_De_letHourPass_24 ?_
    refine zi_istore [(4, .int (v5 - v7)), (0, .ref a0), (1, .ref a1), (2, .int x2), (3, .int x3)] d_De_letHourPass_25 (by decide) rfl ?_
    refine zi_iload 0 d_De_letHourPass_27 rfl ?_
    refine zi_aload_n 1 d_De_letHourPass_29 rfl ?_
    obtain ⟨b8, eb8, h⟩ := zbind h
    refine zo_getR 33 zkd_0 0 d_De_letHourPass_30 eb8 rfl tw_258 rfl ?_
    refine zi_aload_n 2 d_De_letHourPass_33 rfl ?_
    refine zi_aload_n 2 d_De_letHourPass_34 rfl ?_
    obtain ⟨b9, eb9, h⟩ := zbind h
    refine zo_getR 38 zkd_3 5 d_De_letHourPass_35 eb9 rfl tw_68 rfl ?_
    refine zi_iload_n 4 d_De_letHourPass_38 rfl ?_
    obtain ⟨v10, ev10, h⟩ := zbind h
    refine zo_iald 40 d_De_letHourPass_39 ev10 rfl ?_
    obtain ⟨u11, eu11, h⟩ := zbind h
    obtain ⟨q12, eq12, h⟩ := zbind h
    refine zo_virt (k' := 0) (n' := 0) 43 [.ref a1, .int v10] [.int (v5 - v7)] [.int q12.1, .int (v5 - v7)] zkd_1 (zck_s eu11) (C_Ju_threadsOn n E S b8 a1 v10 M q12.1 q12.2 eq12) d_De_letHourPass_40 tw_514 tw_922 tw_512 tw_513 tw_8 dd_Ju_threadsOn ⟨Nat.le_of_ble_eq_true rfl, Nat.le_of_ble_eq_true rfl, Nat.le_of_ble_eq_true rfl, Nat.le_of_ble_eq_true rfl⟩ (Nat.le_of_ble_eq_true rfl) rfl rfl rfl rfl ?_
    obtain ⟨q13, eq13, h⟩ := zbind h
    refine zo_stat (k' := 0) (n' := 0) 46 [.int (v5 - v7), .int q12.1] [] [.int q13.1] (C_Jm_min n E S (v5 - v7) q12.1 q12.2 q13.1 q13.2 eq13) d_De_letHourPass_43 tw_433 tw_923 tw_432 tw_14 dd_Jm_min ⟨Nat.le_of_ble_eq_true rfl, Nat.le_of_ble_eq_true rfl, Nat.le_of_ble_eq_true rfl, Nat.le_of_ble_eq_true rfl⟩ (Nat.le_of_ble_eq_true rfl) rfl rfl rfl rfl ?_
    refine zi_istore [(5, .int q13.1), (4, .int (v5 - v7)), (0, .ref a0), (1, .ref a1), (2, .int x2), (3, .int x3)] d_De_letHourPass_46 (by decide) rfl ?_
    refine zi_aload_n 3 d_De_letHourPass_48 rfl ?_
    refine zo_getR 52 zkd_3 4 d_De_letHourPass_49 eb6 rfl tw_61 rfl ?_
    refine zi_iload_n 5 d_De_letHourPass_52 rfl ?_
    refine zi_dup2 d_De_letHourPass_53 rfl rfl ?_
    obtain ⟨v14, ev14, h⟩ := zbind h
    refine zo_iald 55 d_De_letHourPass_54 ev14 rfl ?_
    refine zi_iload 0 d_De_letHourPass_55 rfl ?_
    refine zi_iadd d_De_letHourPass_57 ?_
    obtain ⟨m15, em15, h⟩ := zbind h
    refine zo_iast 59 d_De_letHourPass_58 em15 rfl ?_
    refine zi_iload_n 4 d_De_letHourPass_59 rfl ?_
    refine zi_iload 0 d_De_letHourPass_60 rfl ?_
    refine zi_iadd d_De_letHourPass_62 ?_
    refine zi_istore_n [(2, .int (x2 + q13.1)), (5, .int q13.1), (4, .int (v5 - v7)), (0, .ref a0), (1, .ref a1), (3, .int x3)] d_De_letHourPass_63 (by decide) rfl ?_
    refine zi_aload_n 4 d_De_letHourPass_64 rfl ?_
    refine zo_getR 68 zkd_3 4 d_De_letHourPass_65 eb6 rfl tw_61 rfl ?_
    refine zi_iload_n 5 d_De_letHourPass_68 rfl ?_
    refine zi_iconst 0 d_De_letHourPass_69 rfl ?_
    refine zi_aload_n 4 d_De_letHourPass_70 rfl ?_
    refine zo_getR 74 zkd_3 4 d_De_letHourPass_71 eb6 rfl tw_61 rfl ?_
    refine zi_iload_n 5 d_De_letHourPass_74 rfl ?_
    obtain ⟨v16, ev16, h⟩ := zbind h
    refine zo_iald 76 d_De_letHourPass_75 ev16 rfl ?_
    refine zi_aload_n 3 d_De_letHourPass_76 rfl ?_
    refine zo_getR 80 zkd_0 0 d_De_letHourPass_77 eb8 rfl tw_258 rfl ?_
    refine zi_aload_n 4 d_De_letHourPass_80 rfl ?_
    refine zi_iload_n 5 d_De_letHourPass_81 rfl ?_
    obtain ⟨q17, eq17, h⟩ := zbind h
    refine zo_virt (k' := 0) (n' := 0) 85 [.ref a1, .int x3] [.int v16, .int 0, .int x3, .ref b6] [.int q17.1, .int v16, .int 0, .int x3, .ref b6] zkd_1 (zck_s eu11) (C_Ju_leakOf n E S b8 a1 x3 m15 q17.1 q17.2 eq17) d_De_letHourPass_82 tw_486 tw_924 tw_484 tw_485 tw_8 dd_Ju_leakOf ⟨Nat.le_of_ble_eq_true rfl, Nat.le_of_ble_eq_true rfl, Nat.le_of_ble_eq_true rfl, Nat.le_of_ble_eq_true rfl⟩ (Nat.le_of_ble_eq_true rfl) rfl rfl rfl rfl ?_
    refine zi_isub d_De_letHourPass_85 ?_
    obtain ⟨q18, eq18, h⟩ := zbind h
    refine zo_stat (k' := 0) (n' := 0) 89 [.int 0, .int (v16 - q17.1)] [.int x3, .ref b6] [.int q18.1, .int x3, .ref b6] (C_Jm_max n E S 0 (v16 - q17.1) q17.2 q18.1 q18.2 eq18) d_De_letHourPass_86 tw_436 tw_925 tw_435 tw_14 dd_Jm_max ⟨Nat.le_of_ble_eq_true rfl, Nat.le_of_ble_eq_true rfl, Nat.le_of_ble_eq_true rfl, Nat.le_of_ble_eq_true rfl⟩ (Nat.le_of_ble_eq_true rfl) rfl rfl rfl rfl ?_
    obtain ⟨m19, em19, h⟩ := zbind h
    refine zo_iast 90 d_De_letHourPass_89 em19 rfl ?_
    refine zi_iinc 5 (x3 + 1) [(3, .int (x3 + 1)), (2, .int (x2 + q13.1)), (5, .int q13.1), (4, .int (v5 - v7)), (0, .ref a0), (1, .ref a1)] d_De_letHourPass_90 rfl rfl (by decide) rfl ?_
    refine zi_goto (tgt := 4) d_De_letHourPass_93 rfl ?_
    refine zi_lo [(0, .ref a0), (1, .ref a1), (2, .int (x2 + q13.1)), (3, .int (x3 + 1))] [4, 5, 1, 0] rfl ?_
    exact hr4 a0 a1 (x2 + q13.1) (x3 + 1) m19 h
theorem K_De_letHourPass_b4 (n : Nat) (E : zE) (S : zS) (a0 : Nat) (a1 : Nat) (x2 : Int32) (x3 : Int32) (M : zH) (r : Int32) (M' : zH)  (h : F_De_letHourPass_b4 n E S (a0, a1, x2, x3, M) = some (r, M')) : zG E Y_De_letHourPass (some (.int r), S, M') 4 [(0, .ref a0), (1, .ref a1), (2, .int x2), (3, .int x3)] [] S M 0 0 := by
  have key : ∀ (k : Nat) (a0 : Nat) (a1 : Nat) (x2 : Int32) (x3 : Int32) (M : zH), zfix (fun r4 s => F_De_letHourPass_L4 n E S r4 s.1 s.2.1 s.2.2.1 s.2.2.2.1 s.2.2.2.2) k (a0, a1, x2, x3, M) = some (r, M') → zG E Y_De_letHourPass (some (.int r), S, M') 4 [(0, .ref a0), (1, .ref a1), (2, .int x2), (3, .int x3)] [] S M 0 0 := by
    intro k
    induction k with
    | zero => intro a0 a1 x2 x3 M h; cases h
    | succ k ih => intro a0 a1 x2 x3 M h; exact K_De_letHourPass_L4 n E S _ a0 a1 x2 x3 M r M'  (fun a0 a1 x2 x3 M h => ih a0 a1 x2 x3 M h) h
  exact key n a0 a1 x2 x3 M h
theorem K_De_letHourPass (n : Nat) (E : zE) (S : zS) (a0 : Nat) (a1 : Nat) (M : zH) (r : Int32) (M' : zH)  (h : F_De_letHourPass n E S a0 a1 M = some (r, M')) : zG E Y_De_letHourPass (some (.int r), S, M') 0 [(0, .ref a0), (1, .ref a1)] [] S M 0 0 := by
  unfold F_De_letHourPass at h
  refine zi_iconst 0 d_De_letHourPass_0 rfl ?_
  refine zi_istore_n [(2, .int 0), (0, .ref a0), (1, .ref a1)] d_De_letHourPass_1 (by decide) rfl ?_
  refine zi_iconst 0 d_De_letHourPass_2 rfl ?_
  refine zi_istore_n [(3, .int 0), (2, .int 0), (0, .ref a0), (1, .ref a1)] d_De_letHourPass_3 (by decide) rfl ?_
  refine zi_lo [(0, .ref a0), (1, .ref a1), (2, .int 0), (3, .int 0)] [2, 3, 1, 0] rfl ?_
  exact K_De_letHourPass_b4 n E S a0 a1 0 0 M r M'  h
theorem C_De_letHourPass (n : Nat) (E : zE) (S : zS) (a0 : Nat) (a1 : Nat) (M : zH) (r : Int32) (M' : zH) (h : F_De_letHourPass n E S a0 a1 M = some (r, M')) : zC E Y_De_letHourPass [.ref a0, .ref a1] S M (some (.int r), S, M') :=
  zC.of (Or.inl (show plainName "NightColander$Deeds" = true by decide)) (Nat.le_of_ble_eq_true rfl) (trivial) (K_De_letHourPass n E S a0 a1 M r M' h)
theorem d_De_move_0 : decode (yB Y_De_move) 0 = .ok (.aload_n 0, 1) := by decide +kernel
theorem d_De_move_1 : decode (yB Y_De_move) 1 = .ok (.getfield 15, 3) := by decide +kernel
theorem d_De_move_4 : decode (yB Y_De_move) 4 = .ok (.iload_n 1, 1) := by decide +kernel
theorem d_De_move_5 : decode (yB Y_De_move) 5 = .ok (.iaload, 1) := by decide +kernel
theorem d_De_move_6 : decode (yB Y_De_move) 6 = .ok (.istore_n 3, 1) := by decide +kernel
theorem d_De_move_7 : decode (yB Y_De_move) 7 = .ok (.aload_n 0, 1) := by decide +kernel
theorem d_De_move_8 : decode (yB Y_De_move) 8 = .ok (.getfield 15, 3) := by decide +kernel
theorem d_De_move_11 : decode (yB Y_De_move) 11 = .ok (.iload_n 1, 1) := by decide +kernel
theorem d_De_move_12 : decode (yB Y_De_move) 12 = .ok (.iload_n 2, 1) := by decide +kernel
theorem d_De_move_13 : decode (yB Y_De_move) 13 = .ok (.iastore, 1) := by decide +kernel
theorem d_De_move_14 : decode (yB Y_De_move) 14 = .ok (.iload_n 3, 1) := by decide +kernel
theorem d_De_move_15 : decode (yB Y_De_move) 15 = .ok (.ireturn, 1) := by decide +kernel
def F_De_move (n : Nat) (E : zE) (S : zS) (a0 : Nat) (x1 : Int32) (x2 : Int32) (M : zH) : Option (Int32 × zH) :=
  (zgR S a0 3 5).bind fun b1 =>
  (zldI S M b1 x1).bind fun v2 =>
  (zstI S M b1 x1 x2).bind fun m3 =>
  some (v2, m3)
theorem K_De_move (n : Nat) (E : zE) (S : zS) (a0 : Nat) (x1 : Int32) (x2 : Int32) (M : zH) (r : Int32) (M' : zH)  (h : F_De_move n E S a0 x1 x2 M = some (r, M')) : zG E Y_De_move (some (.int r), S, M') 0 [(0, .ref a0), (1, .int x1), (2, .int x2)] [] S M 0 0 := by
  unfold F_De_move at h
  refine zi_aload_n 0 d_De_move_0 rfl ?_
  obtain ⟨b1, eb1, h⟩ := zbind h
  refine zo_getR 4 zkd_3 5 d_De_move_1 eb1 rfl tw_68 rfl ?_
  refine zi_iload_n 1 d_De_move_4 rfl ?_
  obtain ⟨v2, ev2, h⟩ := zbind h
  refine zo_iald 6 d_De_move_5 ev2 rfl ?_
  refine zi_istore_n [(3, .int v2), (0, .ref a0), (1, .int x1), (2, .int x2)] d_De_move_6 (by decide) rfl ?_
  refine zi_aload_n 1 d_De_move_7 rfl ?_
  refine zo_getR 11 zkd_3 5 d_De_move_8 eb1 rfl tw_68 rfl ?_
  refine zi_iload_n 2 d_De_move_11 rfl ?_
  refine zi_iload_n 3 d_De_move_12 rfl ?_
  obtain ⟨m3, em3, h⟩ := zbind h
  refine zo_iast 14 d_De_move_13 em3 rfl ?_
  refine zi_iload_n 0 d_De_move_14 rfl ?_
  cases h
  exact zo_ret d_De_move_15 (Nat.le_of_ble_eq_true rfl) (Nat.le_of_ble_eq_true rfl) rfl
theorem C_De_move (n : Nat) (E : zE) (S : zS) (a0 : Nat) (x1 : Int32) (x2 : Int32) (M : zH) (r : Int32) (M' : zH) (h : F_De_move n E S a0 x1 x2 M = some (r, M')) : zC E Y_De_move [.ref a0, .int x1, .int x2] S M (some (.int r), S, M') :=
  zC.of (Or.inl (show plainName "NightColander$Deeds" = true by decide)) (Nat.le_of_ble_eq_true rfl) (trivial) (K_De_move n E S a0 x1 x2 M r M' h)
theorem d_De_refusalOf_0 : decode (yB Y_De_refusalOf) 0 = .ok (.iload_n 2, 1) := by decide +kernel
theorem d_De_refusalOf_1 : decode (yB Y_De_refusalOf) 1 = .ok (.tableswitch 141 0 2 #[27, 48, 89], 27) := by decide +kernel
theorem d_De_refusalOf_28 : decode (yB Y_De_refusalOf) 28 = .ok (.iload_n 3, 1) := by decide +kernel
theorem d_De_refusalOf_29 : decode (yB Y_De_refusalOf) 29 = .ok (.invokestatic 71, 3) := by decide +kernel
theorem d_De_refusalOf_32 : decode (yB Y_De_refusalOf) 32 = .ok (.ifCond .eq 15, 3) := by decide +kernel
theorem d_De_refusalOf_35 : decode (yB Y_De_refusalOf) 35 = .ok (.iload 4, 2) := by decide +kernel
theorem d_De_refusalOf_37 : decode (yB Y_De_refusalOf) 37 = .ok (.invokestatic 75, 3) := by decide +kernel
theorem d_De_refusalOf_40 : decode (yB Y_De_refusalOf) 40 = .ok (.ifCond .eq 7, 3) := by decide +kernel
theorem d_De_refusalOf_43 : decode (yB Y_De_refusalOf) 43 = .ok (.iconst 0, 1) := by decide +kernel
theorem d_De_refusalOf_44 : decode (yB Y_De_refusalOf) 44 = .ok (.goto 4, 3) := by decide +kernel
theorem d_De_refusalOf_47 : decode (yB Y_De_refusalOf) 47 = .ok (.iconst (-1), 1) := by decide +kernel
theorem d_De_refusalOf_48 : decode (yB Y_De_refusalOf) 48 = .ok (.ireturn, 1) := by decide +kernel
theorem d_De_refusalOf_49 : decode (yB Y_De_refusalOf) 49 = .ok (.iload_n 3, 1) := by decide +kernel
theorem d_De_refusalOf_50 : decode (yB Y_De_refusalOf) 50 = .ok (.invokestatic 71, 3) := by decide +kernel
theorem d_De_refusalOf_53 : decode (yB Y_De_refusalOf) 53 = .ok (.ifCond .eq 11, 3) := by decide +kernel
theorem d_De_refusalOf_56 : decode (yB Y_De_refusalOf) 56 = .ok (.iload 4, 2) := by decide +kernel
theorem d_De_refusalOf_58 : decode (yB Y_De_refusalOf) 58 = .ok (.invokestatic 75, 3) := by decide +kernel
theorem d_De_refusalOf_61 : decode (yB Y_De_refusalOf) 61 = .ok (.ifCond .ne 5, 3) := by decide +kernel
theorem d_De_refusalOf_64 : decode (yB Y_De_refusalOf) 64 = .ok (.iconst (-1), 1) := by decide +kernel
theorem d_De_refusalOf_65 : decode (yB Y_De_refusalOf) 65 = .ok (.ireturn, 1) := by decide +kernel
theorem d_De_refusalOf_66 : decode (yB Y_De_refusalOf) 66 = .ok (.aload_n 1, 1) := by decide +kernel
theorem d_De_refusalOf_67 : decode (yB Y_De_refusalOf) 67 = .ok (.getfield 62, 3) := by decide +kernel
theorem d_De_refusalOf_70 : decode (yB Y_De_refusalOf) 70 = .ok (.iload 4, 2) := by decide +kernel
theorem d_De_refusalOf_72 : decode (yB Y_De_refusalOf) 72 = .ok (.bipush 8, 2) := by decide +kernel
theorem d_De_refusalOf_74 : decode (yB Y_De_refusalOf) 74 = .ok (.imul, 1) := by decide +kernel
theorem d_De_refusalOf_75 : decode (yB Y_De_refusalOf) 75 = .ok (.iload_n 3, 1) := by decide +kernel
theorem d_De_refusalOf_76 : decode (yB Y_De_refusalOf) 76 = .ok (.iadd, 1) := by decide +kernel
theorem d_De_refusalOf_77 : decode (yB Y_De_refusalOf) 77 = .ok (.iaload, 1) := by decide +kernel
theorem d_De_refusalOf_78 : decode (yB Y_De_refusalOf) 78 = .ok (.bipush 9, 2) := by decide +kernel
theorem d_De_refusalOf_80 : decode (yB Y_De_refusalOf) 80 = .ok (.if_icmp .ge 7, 3) := by decide +kernel
theorem d_De_refusalOf_83 : decode (yB Y_De_refusalOf) 83 = .ok (.iconst 0, 1) := by decide +kernel
theorem d_De_refusalOf_84 : decode (yB Y_De_refusalOf) 84 = .ok (.goto 5, 3) := by decide +kernel
theorem d_De_refusalOf_87 : decode (yB Y_De_refusalOf) 87 = .ok (.bipush (-3), 2) := by decide +kernel
theorem d_De_refusalOf_89 : decode (yB Y_De_refusalOf) 89 = .ok (.ireturn, 1) := by decide +kernel
theorem d_De_refusalOf_90 : decode (yB Y_De_refusalOf) 90 = .ok (.iload 4, 2) := by decide +kernel
theorem d_De_refusalOf_92 : decode (yB Y_De_refusalOf) 92 = .ok (.invokestatic 78, 3) := by decide +kernel
theorem d_De_refusalOf_95 : decode (yB Y_De_refusalOf) 95 = .ok (.ifCond .ne 5, 3) := by decide +kernel
theorem d_De_refusalOf_98 : decode (yB Y_De_refusalOf) 98 = .ok (.iconst (-1), 1) := by decide +kernel
theorem d_De_refusalOf_99 : decode (yB Y_De_refusalOf) 99 = .ok (.ireturn, 1) := by decide +kernel
theorem d_De_refusalOf_100 : decode (yB Y_De_refusalOf) 100 = .ok (.aload_n 1, 1) := by decide +kernel
theorem d_De_refusalOf_101 : decode (yB Y_De_refusalOf) 101 = .ok (.iload_n 3, 1) := by decide +kernel
theorem d_De_refusalOf_102 : decode (yB Y_De_refusalOf) 102 = .ok (.invokevirtual 81, 3) := by decide +kernel
theorem d_De_refusalOf_105 : decode (yB Y_De_refusalOf) 105 = .ok (.ifCond .ne 6, 3) := by decide +kernel
theorem d_De_refusalOf_108 : decode (yB Y_De_refusalOf) 108 = .ok (.bipush (-2), 2) := by decide +kernel
theorem d_De_refusalOf_110 : decode (yB Y_De_refusalOf) 110 = .ok (.ireturn, 1) := by decide +kernel
theorem d_De_refusalOf_111 : decode (yB Y_De_refusalOf) 111 = .ok (.aload_n 1, 1) := by decide +kernel
theorem d_De_refusalOf_112 : decode (yB Y_De_refusalOf) 112 = .ok (.iload 4, 2) := by decide +kernel
theorem d_De_refusalOf_114 : decode (yB Y_De_refusalOf) 114 = .ok (.invokevirtual 84, 3) := by decide +kernel
theorem d_De_refusalOf_117 : decode (yB Y_De_refusalOf) 117 = .ok (.iconst (-1), 1) := by decide +kernel
theorem d_De_refusalOf_118 : decode (yB Y_De_refusalOf) 118 = .ok (.if_icmp .ne 17, 3) := by decide +kernel
theorem d_De_refusalOf_121 : decode (yB Y_De_refusalOf) 121 = .ok (.aload_n 0, 1) := by decide +kernel
theorem d_De_refusalOf_122 : decode (yB Y_De_refusalOf) 122 = .ok (.getfield 9, 3) := by decide +kernel
theorem d_De_refusalOf_125 : decode (yB Y_De_refusalOf) 125 = .ok (.aload_n 1, 1) := by decide +kernel
theorem d_De_refusalOf_126 : decode (yB Y_De_refusalOf) 126 = .ok (.iload_n 3, 1) := by decide +kernel
theorem d_De_refusalOf_127 : decode (yB Y_De_refusalOf) 127 = .ok (.iload 4, 2) := by decide +kernel
theorem d_De_refusalOf_129 : decode (yB Y_De_refusalOf) 129 = .ok (.invokevirtual 88, 3) := by decide +kernel
theorem d_De_refusalOf_132 : decode (yB Y_De_refusalOf) 132 = .ok (.ifCond .eq 8, 3) := by decide +kernel
theorem d_De_refusalOf_135 : decode (yB Y_De_refusalOf) 135 = .ok (.bipush (-3), 2) := by decide +kernel
theorem d_De_refusalOf_137 : decode (yB Y_De_refusalOf) 137 = .ok (.goto 4, 3) := by decide +kernel
theorem d_De_refusalOf_140 : decode (yB Y_De_refusalOf) 140 = .ok (.iconst 0, 1) := by decide +kernel
theorem d_De_refusalOf_141 : decode (yB Y_De_refusalOf) 141 = .ok (.ireturn, 1) := by decide +kernel
theorem d_De_refusalOf_142 : decode (yB Y_De_refusalOf) 142 = .ok (.aload_n 1, 1) := by decide +kernel
theorem d_De_refusalOf_143 : decode (yB Y_De_refusalOf) 143 = .ok (.getfield 49, 3) := by decide +kernel
theorem d_De_refusalOf_146 : decode (yB Y_De_refusalOf) 146 = .ok (.iconst 0, 1) := by decide +kernel
theorem d_De_refusalOf_147 : decode (yB Y_De_refusalOf) 147 = .ok (.iaload, 1) := by decide +kernel
theorem d_De_refusalOf_148 : decode (yB Y_De_refusalOf) 148 = .ok (.sipush 999, 3) := by decide +kernel
theorem d_De_refusalOf_151 : decode (yB Y_De_refusalOf) 151 = .ok (.if_icmp .ge 7, 3) := by decide +kernel
theorem d_De_refusalOf_154 : decode (yB Y_De_refusalOf) 154 = .ok (.iconst 0, 1) := by decide +kernel
theorem d_De_refusalOf_155 : decode (yB Y_De_refusalOf) 155 = .ok (.goto 5, 3) := by decide +kernel
theorem d_De_refusalOf_158 : decode (yB Y_De_refusalOf) 158 = .ok (.bipush (-3), 2) := by decide +kernel
theorem d_De_refusalOf_160 : decode (yB Y_De_refusalOf) 160 = .ok (.ireturn, 1) := by decide +kernel
def F_De_refusalOf_b135 (n : Nat) (E : zE) (S : zS)  (M : zH) : Option (Int32 × zH) :=
  some ((-3), M)
def F_De_refusalOf (n : Nat) (E : zE) (S : zS) (a0 : Nat) (a1 : Nat) (x2 : Int32) (x3 : Int32) (x4 : Int32) (M : zH) : Option (Int32 × zH) :=
  if x2 = 0 then
    (F_NC_isHole n E S x3 M).bind fun q2 =>
    if q2.1 = true then
      (F_NC_isRing n E S x4 q2.2).bind fun q4 =>
      if q4.1 = true then
        some (0, q4.2)
      else
        some ((-1), q4.2)
    else
      some ((-1), q2.2)
  else
  if x2 = 1 then
    (F_NC_isHole n E S x3 M).bind fun q7 =>
    if q7.1 = true then
      (F_NC_isRing n E S x4 q7.2).bind fun q9 =>
      if q9.1 = true then
        (zgR S a1 3 0).bind fun b11 =>
        (zldI S q9.2 b11 ((x4 * 8) + x3)).bind fun v12 =>
        if 9 ≤ v12 then
          some ((-3), q9.2)
        else
          some (0, q9.2)
      else
        some ((-1), q9.2)
    else
      some ((-1), q7.2)
  else
  if x2 = 2 then
    (F_NC_isField n E S x4 M).bind fun q15 =>
    if q15.1 = true then
      (zck S a1 3).bind fun u17 =>
      (F_Ni_hasBucket n E S a1 x3 q15.2).bind fun q18 =>
      if q18.1 = true then
        (F_Ni_bucketAt n E S a1 x4 q18.2).bind fun q20 =>
        if q20.1 = (-1) then
          (zgR S a0 0 0).bind fun b22 =>
          (zck S b22 1).bind fun u23 =>
          (F_Ju_isBarred n E S b22 a1 x3 x4 q20.2).bind fun q24 =>
          if q24.1 = true then
            F_De_refusalOf_b135 n E S  q24.2
          else
            some (0, q24.2)
        else
          F_De_refusalOf_b135 n E S  q20.2
      else
        some ((-2), q18.2)
    else
      some ((-1), q15.2)
  else
    (zgR S a1 3 9).bind fun b26 =>
    (zldI S M b26 0).bind fun v27 =>
    if 999 ≤ v27 then
      some ((-3), M)
    else
      some (0, M)
theorem K_De_refusalOf_b135 (n : Nat) (E : zE) (S : zS)  (M : zH) (r : Int32) (M' : zH)  (h : F_De_refusalOf_b135 n E S  M = some (r, M')) : zG E Y_De_refusalOf (some (.int r), S, M') 135 [] [] S M 0 0 := by
  unfold F_De_refusalOf_b135 at h
  refine zi_bipush (-3) d_De_refusalOf_135 rfl ?_
  refine zi_goto (tgt := 141) d_De_refusalOf_137 rfl ?_
  cases h
  exact zo_ret d_De_refusalOf_141 (Nat.le_of_ble_eq_true rfl) (Nat.le_of_ble_eq_true rfl) rfl
theorem K_De_refusalOf (n : Nat) (E : zE) (S : zS) (a0 : Nat) (a1 : Nat) (x2 : Int32) (x3 : Int32) (x4 : Int32) (M : zH) (r : Int32) (M' : zH)  (h : F_De_refusalOf n E S a0 a1 x2 x3 x4 M = some (r, M')) : zG E Y_De_refusalOf (some (.int r), S, M') 0 [(0, .ref a0), (1, .ref a1), (2, .int x2), (3, .int x3), (4, .int x4)] [] S M 0 0 := by
  unfold F_De_refusalOf at h
  refine zi_iload_n 2 d_De_refusalOf_0 rfl ?_
  by_cases c1 : x2 = 0
  · rw [if_pos c1] at h
    refine zo_tab (tgt := 28) 0 d_De_refusalOf_1 c1 (by decide) (by decide) rfl rfl ?_
    refine zi_iload_n 3 d_De_refusalOf_28 rfl ?_
    obtain ⟨q2, eq2, h⟩ := zbind h
    refine zo_statN (k' := 0) (n' := 0) 32 [.int x3] [] [.int (bI q2.1)] (C_NC_isHole n E S x3 M q2.1 q2.2 eq2) d_De_refusalOf_29 tw_402 (List.mem_of_getElem? (i := 9) rfl) tw_401 tw_1 dd_NC_isHole ⟨Nat.le_of_ble_eq_true rfl, Nat.le_of_ble_eq_true rfl, Nat.le_of_ble_eq_true rfl, Nat.le_of_ble_eq_true rfl⟩ (Nat.le_of_ble_eq_true rfl) rfl rfl rfl rfl ?_
    refine zo_ifeqB d_De_refusalOf_32 rfl 35 rfl (fun c3 => ?_) (fun c3 => ?_)
    · rw [if_neg c3] at h
      refine zi_iconst (-1) d_De_refusalOf_47 rfl ?_
      cases h
      exact zo_ret d_De_refusalOf_48 (Nat.le_of_ble_eq_true rfl) (Nat.le_of_ble_eq_true rfl) rfl
    · rw [if_pos c3] at h
      refine zi_iload 4 d_De_refusalOf_35 rfl ?_
      obtain ⟨q4, eq4, h⟩ := zbind h
      refine zo_statN (k' := 0) (n' := 0) 40 [.int x4] [] [.int (bI q4.1)] (C_NC_isRing n E S x4 q2.2 q4.1 q4.2 eq4) d_De_refusalOf_37 tw_396 (List.mem_of_getElem? (i := 10) rfl) tw_395 tw_1 dd_NC_isRing ⟨Nat.le_of_ble_eq_true rfl, Nat.le_of_ble_eq_true rfl, Nat.le_of_ble_eq_true rfl, Nat.le_of_ble_eq_true rfl⟩ (Nat.le_of_ble_eq_true rfl) rfl rfl rfl rfl ?_
      refine zo_ifeqB d_De_refusalOf_40 rfl 43 rfl (fun c5 => ?_) (fun c5 => ?_)
      · rw [if_neg c5] at h
        refine zi_iconst (-1) d_De_refusalOf_47 rfl ?_
        cases h
        exact zo_ret d_De_refusalOf_48 (Nat.le_of_ble_eq_true rfl) (Nat.le_of_ble_eq_true rfl) rfl
      · rw [if_pos c5] at h
        refine zi_iconst 0 d_De_refusalOf_43 rfl ?_
        refine zi_goto (tgt := 48) d_De_refusalOf_44 rfl ?_
        cases h
        exact zo_ret d_De_refusalOf_48 (Nat.le_of_ble_eq_true rfl) (Nat.le_of_ble_eq_true rfl) rfl
  rw [if_neg c1] at h
  by_cases c6 : x2 = 1
  · rw [if_pos c6] at h
    refine zo_tab (tgt := 49) 1 d_De_refusalOf_1 c6 (by decide) (by decide) rfl rfl ?_
    refine zi_iload_n 3 d_De_refusalOf_49 rfl ?_
    obtain ⟨q7, eq7, h⟩ := zbind h
    refine zo_statN (k' := 0) (n' := 0) 53 [.int x3] [] [.int (bI q7.1)] (C_NC_isHole n E S x3 M q7.1 q7.2 eq7) d_De_refusalOf_50 tw_402 (List.mem_of_getElem? (i := 9) rfl) tw_401 tw_1 dd_NC_isHole ⟨Nat.le_of_ble_eq_true rfl, Nat.le_of_ble_eq_true rfl, Nat.le_of_ble_eq_true rfl, Nat.le_of_ble_eq_true rfl⟩ (Nat.le_of_ble_eq_true rfl) rfl rfl rfl rfl ?_
    refine zo_ifeqB d_De_refusalOf_53 rfl 56 rfl (fun c8 => ?_) (fun c8 => ?_)
    · rw [if_neg c8] at h
      refine zi_iconst (-1) d_De_refusalOf_64 rfl ?_
      cases h
      exact zo_ret d_De_refusalOf_65 (Nat.le_of_ble_eq_true rfl) (Nat.le_of_ble_eq_true rfl) rfl
    · rw [if_pos c8] at h
      refine zi_iload 4 d_De_refusalOf_56 rfl ?_
      obtain ⟨q9, eq9, h⟩ := zbind h
      refine zo_statN (k' := 0) (n' := 0) 61 [.int x4] [] [.int (bI q9.1)] (C_NC_isRing n E S x4 q7.2 q9.1 q9.2 eq9) d_De_refusalOf_58 tw_396 (List.mem_of_getElem? (i := 10) rfl) tw_395 tw_1 dd_NC_isRing ⟨Nat.le_of_ble_eq_true rfl, Nat.le_of_ble_eq_true rfl, Nat.le_of_ble_eq_true rfl, Nat.le_of_ble_eq_true rfl⟩ (Nat.le_of_ble_eq_true rfl) rfl rfl rfl rfl ?_
      refine zo_ifneB d_De_refusalOf_61 rfl 64 rfl (fun c10 => ?_) (fun c10 => ?_)
      · rw [if_pos c10] at h
        refine zi_aload_n 1 d_De_refusalOf_66 rfl ?_
        obtain ⟨b11, eb11, h⟩ := zbind h
        refine zo_getR 70 zkd_3 0 d_De_refusalOf_67 eb11 rfl tw_44 rfl ?_
        refine zi_iload 4 d_De_refusalOf_70 rfl ?_
        refine zi_bipush 8 d_De_refusalOf_72 rfl ?_
        refine zi_imul d_De_refusalOf_74 ?_
        refine zi_iload_n 3 d_De_refusalOf_75 rfl ?_
        refine zi_iadd d_De_refusalOf_76 ?_
        obtain ⟨v12, ev12, h⟩ := zbind h
        refine zo_iald 78 d_De_refusalOf_77 ev12 rfl ?_
        refine zi_bipush 9 d_De_refusalOf_78 rfl ?_
        refine zi_icmp_ge (tgt := 87) d_De_refusalOf_80 rfl (fun c13 => ?_) (fun c13 => ?_)
        · rw [if_pos c13] at h
          refine zi_bipush (-3) d_De_refusalOf_87 rfl ?_
          cases h
          exact zo_ret d_De_refusalOf_89 (Nat.le_of_ble_eq_true rfl) (Nat.le_of_ble_eq_true rfl) rfl
        · rw [if_neg c13] at h
          refine zi_iconst 0 d_De_refusalOf_83 rfl ?_
          refine zi_goto (tgt := 89) d_De_refusalOf_84 rfl ?_
          cases h
          exact zo_ret d_De_refusalOf_89 (Nat.le_of_ble_eq_true rfl) (Nat.le_of_ble_eq_true rfl) rfl
      · rw [if_neg c10] at h
        refine zi_iconst (-1) d_De_refusalOf_64 rfl ?_
        cases h
        exact zo_ret d_De_refusalOf_65 (Nat.le_of_ble_eq_true rfl) (Nat.le_of_ble_eq_true rfl) rfl
  rw [if_neg c6] at h
  by_cases c14 : x2 = 2
  · rw [if_pos c14] at h
    refine zo_tab (tgt := 90) 2 d_De_refusalOf_1 c14 (by decide) (by decide) rfl rfl ?_
    refine zi_iload 4 d_De_refusalOf_90 rfl ?_
    obtain ⟨q15, eq15, h⟩ := zbind h
    refine zo_statN (k' := 0) (n' := 0) 95 [.int x4] [] [.int (bI q15.1)] (C_NC_isField n E S x4 M q15.1 q15.2 eq15) d_De_refusalOf_92 tw_465 (List.mem_of_getElem? (i := 11) rfl) tw_464 tw_1 dd_NC_isField ⟨Nat.le_of_ble_eq_true rfl, Nat.le_of_ble_eq_true rfl, Nat.le_of_ble_eq_true rfl, Nat.le_of_ble_eq_true rfl⟩ (Nat.le_of_ble_eq_true rfl) rfl rfl rfl rfl ?_
    refine zo_ifneB d_De_refusalOf_95 rfl 98 rfl (fun c16 => ?_) (fun c16 => ?_)
    · rw [if_pos c16] at h
      refine zi_aload_n 1 d_De_refusalOf_100 rfl ?_
      refine zi_iload_n 3 d_De_refusalOf_101 rfl ?_
      obtain ⟨u17, eu17, h⟩ := zbind h
      obtain ⟨q18, eq18, h⟩ := zbind h
      refine zo_virt (k' := 0) (n' := 0) 105 [.int x3] [] [.int (bI q18.1)] zkd_3 (zck_s eu17) (C_Ni_hasBucket n E S a1 x3 q15.2 q18.1 q18.2 eq18) d_De_refusalOf_102 tw_481 tw_902 tw_479 tw_480 tw_2 dd_Ni_hasBucket ⟨Nat.le_of_ble_eq_true rfl, Nat.le_of_ble_eq_true rfl, Nat.le_of_ble_eq_true rfl, Nat.le_of_ble_eq_true rfl⟩ (Nat.le_of_ble_eq_true rfl) rfl rfl rfl rfl ?_
      refine zo_ifneB d_De_refusalOf_105 rfl 108 rfl (fun c19 => ?_) (fun c19 => ?_)
      · rw [if_pos c19] at h
        refine zi_aload_n 1 d_De_refusalOf_111 rfl ?_
        refine zi_iload 4 d_De_refusalOf_112 rfl ?_
        obtain ⟨q20, eq20, h⟩ := zbind h
        refine zo_virt (k' := 0) (n' := 0) 117 [.int x4] [] [.int q20.1] zkd_3 (zck_s eu17) (C_Ni_bucketAt n E S a1 x4 q18.2 q20.1 q20.2 eq20) d_De_refusalOf_114 tw_469 tw_903 tw_467 tw_468 tw_2 dd_Ni_bucketAt ⟨Nat.le_of_ble_eq_true rfl, Nat.le_of_ble_eq_true rfl, Nat.le_of_ble_eq_true rfl, Nat.le_of_ble_eq_true rfl⟩ (Nat.le_of_ble_eq_true rfl) rfl rfl rfl rfl ?_
        refine zi_iconst (-1) d_De_refusalOf_117 rfl ?_
        refine zi_icmp_ne (tgt := 135) d_De_refusalOf_118 rfl (fun c21 => ?_) (fun c21 => ?_)
        · rw [if_neg c21] at h
          refine zi_lo [] [] rfl ?_
          exact K_De_refusalOf_b135 n E S  q20.2 r M'  h
        · rw [if_pos c21] at h
          refine zi_aload_n 0 d_De_refusalOf_121 rfl ?_
          obtain ⟨b22, eb22, h⟩ := zbind h
          refine zo_getR 125 zkd_0 0 d_De_refusalOf_122 eb22 rfl tw_258 rfl ?_
          refine zi_aload_n 1 d_De_refusalOf_125 rfl ?_
          refine zi_iload_n 3 d_De_refusalOf_126 rfl ?_
          refine zi_iload 4 d_De_refusalOf_127 rfl ?_
          obtain ⟨u23, eu23, h⟩ := zbind h
          obtain ⟨q24, eq24, h⟩ := zbind h
          refine zo_virt (k' := 0) (n' := 0) 132 [.ref a1, .int x3, .int x4] [] [.int (bI q24.1)] zkd_1 (zck_s eu23) (C_Ju_isBarred n E S b22 a1 x3 x4 q20.2 q24.1 q24.2 eq24) d_De_refusalOf_129 tw_502 tw_904 tw_500 tw_501 tw_8 dd_Ju_isBarred ⟨Nat.le_of_ble_eq_true rfl, Nat.le_of_ble_eq_true rfl, Nat.le_of_ble_eq_true rfl, Nat.le_of_ble_eq_true rfl⟩ (Nat.le_of_ble_eq_true rfl) rfl rfl rfl rfl ?_
          refine zo_ifeqB d_De_refusalOf_132 rfl 135 rfl (fun c25 => ?_) (fun c25 => ?_)
          · rw [if_neg c25] at h
            refine zi_iconst 0 d_De_refusalOf_140 rfl ?_
            cases h
            exact zo_ret d_De_refusalOf_141 (Nat.le_of_ble_eq_true rfl) (Nat.le_of_ble_eq_true rfl) rfl
          · rw [if_pos c25] at h
            refine zi_lo [] [] rfl ?_
            exact K_De_refusalOf_b135 n E S  q24.2 r M'  h
      · rw [if_neg c19] at h
        refine zi_bipush (-2) d_De_refusalOf_108 rfl ?_
        cases h
        exact zo_ret d_De_refusalOf_110 (Nat.le_of_ble_eq_true rfl) (Nat.le_of_ble_eq_true rfl) rfl
    · rw [if_neg c16] at h
      refine zi_iconst (-1) d_De_refusalOf_98 rfl ?_
      cases h
      exact zo_ret d_De_refusalOf_99 (Nat.le_of_ble_eq_true rfl) (Nat.le_of_ble_eq_true rfl) rfl
  rw [if_neg c14] at h
  refine zo_tabP (tgt := 142) 0 3 d_De_refusalOf_1 rfl rfl (fun j hj => by match j, hj with | 0, _ => exact c1  | 1, _ => exact c6  | 2, _ => exact c14 | j + 3, hj => exact absurd hj (by omega)) rfl ?_
  refine zi_aload_n 1 d_De_refusalOf_142 rfl ?_
  obtain ⟨b26, eb26, h⟩ := zbind h
  refine zo_getR 146 zkd_3 9 d_De_refusalOf_143 eb26 rfl tw_83 rfl ?_
  refine zi_iconst 0 d_De_refusalOf_146 rfl ?_
  obtain ⟨v27, ev27, h⟩ := zbind h
  refine zo_iald 148 d_De_refusalOf_147 ev27 rfl ?_
  refine zi_sipush 999 d_De_refusalOf_148 rfl ?_
  refine zi_icmp_ge (tgt := 158) d_De_refusalOf_151 rfl (fun c28 => ?_) (fun c28 => ?_)
  · rw [if_pos c28] at h
    refine zi_bipush (-3) d_De_refusalOf_158 rfl ?_
    cases h
    exact zo_ret d_De_refusalOf_160 (Nat.le_of_ble_eq_true rfl) (Nat.le_of_ble_eq_true rfl) rfl
  · rw [if_neg c28] at h
    refine zi_iconst 0 d_De_refusalOf_154 rfl ?_
    refine zi_goto (tgt := 160) d_De_refusalOf_155 rfl ?_
    cases h
    exact zo_ret d_De_refusalOf_160 (Nat.le_of_ble_eq_true rfl) (Nat.le_of_ble_eq_true rfl) rfl
theorem C_De_refusalOf (n : Nat) (E : zE) (S : zS) (a0 : Nat) (a1 : Nat) (x2 : Int32) (x3 : Int32) (x4 : Int32) (M : zH) (r : Int32) (M' : zH) (h : F_De_refusalOf n E S a0 a1 x2 x3 x4 M = some (r, M')) : zC E Y_De_refusalOf [.ref a0, .ref a1, .int x2, .int x3, .int x4] S M (some (.int r), S, M') :=
  zC.of (Or.inl (show plainName "NightColander$Deeds" = true by decide)) (Nat.le_of_ble_eq_true rfl) (trivial) (K_De_refusalOf n E S a0 a1 x2 x3 x4 M r M' h)
theorem d_De_widen_0 : decode (yB Y_De_widen) 0 = .ok (.aload_n 0, 1) := by decide +kernel
theorem d_De_widen_1 : decode (yB Y_De_widen) 1 = .ok (.getfield 62, 3) := by decide +kernel
theorem d_De_widen_4 : decode (yB Y_De_widen) 4 = .ok (.iload_n 1, 1) := by decide +kernel
theorem d_De_widen_5 : decode (yB Y_De_widen) 5 = .ok (.dup2, 1) := by decide +kernel
theorem d_De_widen_6 : decode (yB Y_De_widen) 6 = .ok (.iaload, 1) := by decide +kernel
theorem d_De_widen_7 : decode (yB Y_De_widen) 7 = .ok (.iconst 1, 1) := by decide +kernel
theorem d_De_widen_8 : decode (yB Y_De_widen) 8 = .ok (.iadd, 1) := by decide +kernel
theorem d_De_widen_9 : decode (yB Y_De_widen) 9 = .ok (.iastore, 1) := by decide +kernel
theorem d_De_widen_10 : decode (yB Y_De_widen) 10 = .ok (.aload_n 0, 1) := by decide +kernel
theorem d_De_widen_11 : decode (yB Y_De_widen) 11 = .ok (.getfield 62, 3) := by decide +kernel
theorem d_De_widen_14 : decode (yB Y_De_widen) 14 = .ok (.iload_n 1, 1) := by decide +kernel
theorem d_De_widen_15 : decode (yB Y_De_widen) 15 = .ok (.iaload, 1) := by decide +kernel
theorem d_De_widen_16 : decode (yB Y_De_widen) 16 = .ok (.ireturn, 1) := by decide +kernel
def F_De_widen (n : Nat) (E : zE) (S : zS) (a0 : Nat) (x1 : Int32) (M : zH) : Option (Int32 × zH) :=
  (zgR S a0 3 0).bind fun b1 =>
  (zldI S M b1 x1).bind fun v2 =>
  (zstI S M b1 x1 (v2 + 1)).bind fun m3 =>
  (zldI S m3 b1 x1).bind fun v4 =>
  some (v4, m3)
theorem K_De_widen (n : Nat) (E : zE) (S : zS) (a0 : Nat) (x1 : Int32) (M : zH) (r : Int32) (M' : zH)  (h : F_De_widen n E S a0 x1 M = some (r, M')) : zG E Y_De_widen (some (.int r), S, M') 0 [(0, .ref a0), (1, .int x1)] [] S M 0 0 := by
  unfold F_De_widen at h
  refine zi_aload_n 0 d_De_widen_0 rfl ?_
  obtain ⟨b1, eb1, h⟩ := zbind h
  refine zo_getR 4 zkd_3 0 d_De_widen_1 eb1 rfl tw_44 rfl ?_
  refine zi_iload_n 1 d_De_widen_4 rfl ?_
  refine zi_dup2 d_De_widen_5 rfl rfl ?_
  obtain ⟨v2, ev2, h⟩ := zbind h
  refine zo_iald 7 d_De_widen_6 ev2 rfl ?_
  refine zi_iconst 1 d_De_widen_7 rfl ?_
  refine zi_iadd d_De_widen_8 ?_
  obtain ⟨m3, em3, h⟩ := zbind h
  refine zo_iast 10 d_De_widen_9 em3 rfl ?_
  refine zi_aload_n 0 d_De_widen_10 rfl ?_
  refine zo_getR 14 zkd_3 0 d_De_widen_11 eb1 rfl tw_44 rfl ?_
  refine zi_iload_n 1 d_De_widen_14 rfl ?_
  obtain ⟨v4, ev4, h⟩ := zbind h
  refine zo_iald 16 d_De_widen_15 ev4 rfl ?_
  cases h
  exact zo_ret d_De_widen_16 (Nat.le_of_ble_eq_true rfl) (Nat.le_of_ble_eq_true rfl) rfl
theorem C_De_widen (n : Nat) (E : zE) (S : zS) (a0 : Nat) (x1 : Int32) (M : zH) (r : Int32) (M' : zH) (h : F_De_widen n E S a0 x1 M = some (r, M')) : zC E Y_De_widen [.ref a0, .int x1] S M (some (.int r), S, M') :=
  zC.of (Or.inl (show plainName "NightColander$Deeds" = true by decide)) (Nat.le_of_ble_eq_true rfl) (trivial) (K_De_widen n E S a0 x1 M r M' h)
theorem d_Pt_add_0 : decode (yB Y_Pt_add) 0 = .ok (.aload_n 0, 1) := by decide +kernel
theorem d_Pt_add_1 : decode (yB Y_Pt_add) 1 = .ok (.getfield 15, 3) := by decide +kernel
theorem d_Pt_add_4 : decode (yB Y_Pt_add) 4 = .ok (.bipush 16, 2) := by decide +kernel
theorem d_Pt_add_6 : decode (yB Y_Pt_add) 6 = .ok (.if_icmp .lt 31, 3) := by decide +kernel
theorem d_Pt_add_9 : decode (yB Y_Pt_add) 9 = .ok (.aload_n 0, 1) := by decide +kernel
theorem d_Pt_add_10 : decode (yB Y_Pt_add) 10 = .ok (.getfield 11, 3) := by decide +kernel
theorem d_Pt_add_13 : decode (yB Y_Pt_add) 13 = .ok (.bipush 6, 2) := by decide +kernel
theorem d_Pt_add_15 : decode (yB Y_Pt_add) 15 = .ok (.aload_n 0, 1) := by decide +kernel
theorem d_Pt_add_16 : decode (yB Y_Pt_add) 16 = .ok (.getfield 11, 3) := by decide +kernel
theorem d_Pt_add_19 : decode (yB Y_Pt_add) 19 = .ok (.iconst 0, 1) := by decide +kernel
theorem d_Pt_add_20 : decode (yB Y_Pt_add) 20 = .ok (.aload_n 0, 1) := by decide +kernel
theorem d_Pt_add_21 : decode (yB Y_Pt_add) 21 = .ok (.getfield 11, 3) := by decide +kernel
theorem d_Pt_add_24 : decode (yB Y_Pt_add) 24 = .ok (.arraylength, 1) := by decide +kernel
theorem d_Pt_add_25 : decode (yB Y_Pt_add) 25 = .ok (.bipush 6, 2) := by decide +kernel
theorem d_Pt_add_27 : decode (yB Y_Pt_add) 27 = .ok (.isub, 1) := by decide +kernel
theorem d_Pt_add_28 : decode (yB Y_Pt_add) 28 = .ok (.invokestatic 19, 3) := by decide +kernel
theorem d_Pt_add_31 : decode (yB Y_Pt_add) 31 = .ok (.aload_n 0, 1) := by decide +kernel
theorem d_Pt_add_32 : decode (yB Y_Pt_add) 32 = .ok (.bipush 15, 2) := by decide +kernel
theorem d_Pt_add_34 : decode (yB Y_Pt_add) 34 = .ok (.putfield 15, 3) := by decide +kernel
theorem d_Pt_add_37 : decode (yB Y_Pt_add) 37 = .ok (.aload_n 0, 1) := by decide +kernel
theorem d_Pt_add_38 : decode (yB Y_Pt_add) 38 = .ok (.getfield 15, 3) := by decide +kernel
theorem d_Pt_add_41 : decode (yB Y_Pt_add) 41 = .ok (.bipush 6, 2) := by decide +kernel
theorem d_Pt_add_43 : decode (yB Y_Pt_add) 43 = .ok (.imul, 1) := by decide +kernel
theorem d_Pt_add_44 : decode (yB Y_Pt_add) 44 = .ok (.istore 5, 2) := by decide +kernel
theorem d_Pt_add_46 : decode (yB Y_Pt_add) 46 = .ok (.aload_n 0, 1) := by decide +kernel
theorem d_Pt_add_47 : decode (yB Y_Pt_add) 47 = .ok (.getfield 11, 3) := by decide +kernel
theorem d_Pt_add_50 : decode (yB Y_Pt_add) 50 = .ok (.iload 5, 2) := by decide +kernel
theorem d_Pt_add_52 : decode (yB Y_Pt_add) 52 = .ok (.iload_n 1, 1) := by decide +kernel
theorem d_Pt_add_53 : decode (yB Y_Pt_add) 53 = .ok (.iastore, 1) := by decide +kernel
theorem d_Pt_add_54 : decode (yB Y_Pt_add) 54 = .ok (.aload_n 0, 1) := by decide +kernel
theorem d_Pt_add_55 : decode (yB Y_Pt_add) 55 = .ok (.getfield 11, 3) := by decide +kernel
theorem d_Pt_add_58 : decode (yB Y_Pt_add) 58 = .ok (.iload 5, 2) := by decide +kernel
theorem d_Pt_add_60 : decode (yB Y_Pt_add) 60 = .ok (.iconst 1, 1) := by decide +kernel
theorem d_Pt_add_61 : decode (yB Y_Pt_add) 61 = .ok (.iadd, 1) := by decide +kernel
theorem d_Pt_add_62 : decode (yB Y_Pt_add) 62 = .ok (.iload_n 2, 1) := by decide +kernel
theorem d_Pt_add_63 : decode (yB Y_Pt_add) 63 = .ok (.iastore, 1) := by decide +kernel
theorem d_Pt_add_64 : decode (yB Y_Pt_add) 64 = .ok (.aload_n 0, 1) := by decide +kernel
theorem d_Pt_add_65 : decode (yB Y_Pt_add) 65 = .ok (.getfield 11, 3) := by decide +kernel
theorem d_Pt_add_68 : decode (yB Y_Pt_add) 68 = .ok (.iload 5, 2) := by decide +kernel
theorem d_Pt_add_70 : decode (yB Y_Pt_add) 70 = .ok (.iconst 2, 1) := by decide +kernel
theorem d_Pt_add_71 : decode (yB Y_Pt_add) 71 = .ok (.iadd, 1) := by decide +kernel
theorem d_Pt_add_72 : decode (yB Y_Pt_add) 72 = .ok (.iload_n 3, 1) := by decide +kernel
theorem d_Pt_add_73 : decode (yB Y_Pt_add) 73 = .ok (.iastore, 1) := by decide +kernel
theorem d_Pt_add_74 : decode (yB Y_Pt_add) 74 = .ok (.aload 4, 2) := by decide +kernel
theorem d_Pt_add_76 : decode (yB Y_Pt_add) 76 = .ok (.iconst 0, 1) := by decide +kernel
theorem d_Pt_add_77 : decode (yB Y_Pt_add) 77 = .ok (.aload_n 0, 1) := by decide +kernel
theorem d_Pt_add_78 : decode (yB Y_Pt_add) 78 = .ok (.getfield 11, 3) := by decide +kernel
theorem d_Pt_add_81 : decode (yB Y_Pt_add) 81 = .ok (.iload 5, 2) := by decide +kernel
theorem d_Pt_add_83 : decode (yB Y_Pt_add) 83 = .ok (.iconst 3, 1) := by decide +kernel
theorem d_Pt_add_84 : decode (yB Y_Pt_add) 84 = .ok (.iadd, 1) := by decide +kernel
theorem d_Pt_add_85 : decode (yB Y_Pt_add) 85 = .ok (.iconst 3, 1) := by decide +kernel
theorem d_Pt_add_86 : decode (yB Y_Pt_add) 86 = .ok (.invokestatic 19, 3) := by decide +kernel
theorem d_Pt_add_89 : decode (yB Y_Pt_add) 89 = .ok (.aload_n 0, 1) := by decide +kernel
theorem d_Pt_add_90 : decode (yB Y_Pt_add) 90 = .ok (.dup, 1) := by decide +kernel
theorem d_Pt_add_91 : decode (yB Y_Pt_add) 91 = .ok (.getfield 15, 3) := by decide +kernel
theorem d_Pt_add_94 : decode (yB Y_Pt_add) 94 = .ok (.iconst 1, 1) := by decide +kernel
theorem d_Pt_add_95 : decode (yB Y_Pt_add) 95 = .ok (.iadd, 1) := by decide +kernel
theorem d_Pt_add_96 : decode (yB Y_Pt_add) 96 = .ok (.putfield 15, 3) := by decide +kernel
theorem d_Pt_add_99 : decode (yB Y_Pt_add) 99 = .ok (.return_, 1) := by decide +kernel
def F_Pt_add_b37 (n : Nat) (E : zE) (S : zS) (a0 : Nat) (x1 : Int32) (x2 : Int32) (x3 : Int32) (a4 : Nat) (M : zH) : Option (zH) :=
  (zgI S M a0 6 1).bind fun v1 =>
  (zgR S a0 6 0).bind fun b2 =>
  (zstI S M b2 (v1 * 6) x1).bind fun m3 =>
  (zstI S m3 b2 ((v1 * 6) + 1) x2).bind fun m4 =>
  (zstI S m4 b2 ((v1 * 6) + 2) x3).bind fun m5 =>
  (zcpy S m5 a4 0 b2 ((v1 * 6) + 3) 3).bind fun m6 =>
  (zgI S m6 a0 6 1).bind fun v7 =>
  (zpI S m6 a0 6 1 (v7 + 1)).bind fun m8 =>
  some (m8)
def F_Pt_add (n : Nat) (E : zE) (S : zS) (a0 : Nat) (x1 : Int32) (x2 : Int32) (x3 : Int32) (a4 : Nat) (M : zH) : Option (zH) :=
  (zgI S M a0 6 1).bind fun v9 =>
  if v9 < 16 then
    F_Pt_add_b37 n E S a0 x1 x2 x3 a4 M
  else
    (zgR S a0 6 0).bind fun b11 =>
    (zlen S 12 b11).bind fun v12 =>
    (zcpy S M b11 6 b11 0 (v12 - 6)).bind fun m13 =>
    (zpI S m13 a0 6 1 15).bind fun m14 =>
    F_Pt_add_b37 n E S a0 x1 x2 x3 a4 m14
theorem K_Pt_add_b37 (n : Nat) (E : zE) (S : zS) (a0 : Nat) (x1 : Int32) (x2 : Int32) (x3 : Int32) (a4 : Nat) (M : zH) (M' : zH)  (h : F_Pt_add_b37 n E S a0 x1 x2 x3 a4 M = some M') : zG E Y_Pt_add (none, S, M') 37 [(0, .ref a0), (1, .int x1), (2, .int x2), (3, .int x3), (4, .ref a4)] [] S M 0 0 := by
  unfold F_Pt_add_b37 at h
  refine zi_aload_n 0 d_Pt_add_37 rfl ?_
  obtain ⟨v1, ev1, h⟩ := zbind h
  refine zo_getI 41 zkd_6 1 d_Pt_add_38 ev1 rfl tw_139 rfl ?_
  refine zi_bipush 6 d_Pt_add_41 rfl ?_
  refine zi_imul d_Pt_add_43 ?_
  refine zi_istore [(5, .int (v1 * 6)), (0, .ref a0), (1, .int x1), (2, .int x2), (3, .int x3), (4, .ref a4)] d_Pt_add_44 (by decide) rfl ?_
  refine zi_aload_n 1 d_Pt_add_46 rfl ?_
  obtain ⟨b2, eb2, h⟩ := zbind h
  refine zo_getR 50 zkd_6 0 d_Pt_add_47 eb2 rfl tw_138 rfl ?_
  refine zi_iload 0 d_Pt_add_50 rfl ?_
  refine zi_iload_n 2 d_Pt_add_52 rfl ?_
  obtain ⟨m3, em3, h⟩ := zbind h
  refine zo_iast 54 d_Pt_add_53 em3 rfl ?_
  refine zi_aload_n 1 d_Pt_add_54 rfl ?_
  refine zo_getR 58 zkd_6 0 d_Pt_add_55 eb2 rfl tw_138 rfl ?_
  refine zi_iload 0 d_Pt_add_58 rfl ?_
  refine zi_iconst 1 d_Pt_add_60 rfl ?_
  refine zi_iadd d_Pt_add_61 ?_
  refine zi_iload_n 3 d_Pt_add_62 rfl ?_
  obtain ⟨m4, em4, h⟩ := zbind h
  refine zo_iast 64 d_Pt_add_63 em4 rfl ?_
  refine zi_aload_n 1 d_Pt_add_64 rfl ?_
  refine zo_getR 68 zkd_6 0 d_Pt_add_65 eb2 rfl tw_138 rfl ?_
  refine zi_iload 0 d_Pt_add_68 rfl ?_
  refine zi_iconst 2 d_Pt_add_70 rfl ?_
  refine zi_iadd d_Pt_add_71 ?_
  refine zi_iload_n 4 d_Pt_add_72 rfl ?_
  obtain ⟨m5, em5, h⟩ := zbind h
  refine zo_iast 74 d_Pt_add_73 em5 rfl ?_
  refine zi_aload 5 d_Pt_add_74 rfl ?_
  refine zi_iconst 0 d_Pt_add_76 rfl ?_
  refine zi_aload_n 1 d_Pt_add_77 rfl ?_
  refine zo_getR 81 zkd_6 0 d_Pt_add_78 eb2 rfl tw_138 rfl ?_
  refine zi_iload 0 d_Pt_add_81 rfl ?_
  refine zi_iconst 3 d_Pt_add_83 rfl ?_
  refine zi_iadd d_Pt_add_84 ?_
  refine zi_iconst 3 d_Pt_add_85 rfl ?_
  obtain ⟨m6, em6, h⟩ := zbind h
  refine zo_cpy 89 d_Pt_add_86 em6 tw_873 zcpw rfl (by decide) (Nat.le_of_ble_eq_true rfl) ?_
  refine zi_aload_n 1 d_Pt_add_89 rfl ?_
  refine zi_dup d_Pt_add_90 rfl ?_
  obtain ⟨v7, ev7, h⟩ := zbind h
  refine zo_getI 94 zkd_6 1 d_Pt_add_91 ev7 rfl tw_139 rfl ?_
  refine zi_iconst 1 d_Pt_add_94 rfl ?_
  refine zi_iadd d_Pt_add_95 ?_
  obtain ⟨m8, em8, h⟩ := zbind h
  refine zo_putI 99 zkd_6 1 d_Pt_add_96 em8 rfl rfl rfl tw_139 rfl ?_
  cases h
  exact zo_ret d_Pt_add_99 (Nat.le_of_ble_eq_true rfl) (Nat.le_of_ble_eq_true rfl) rfl
theorem K_Pt_add (n : Nat) (E : zE) (S : zS) (a0 : Nat) (x1 : Int32) (x2 : Int32) (x3 : Int32) (a4 : Nat) (M : zH) (M' : zH)  (h : F_Pt_add n E S a0 x1 x2 x3 a4 M = some M') : zG E Y_Pt_add (none, S, M') 0 [(0, .ref a0), (1, .int x1), (2, .int x2), (3, .int x3), (4, .ref a4)] [] S M 0 0 := by
  unfold F_Pt_add at h
  refine zi_aload_n 0 d_Pt_add_0 rfl ?_
  obtain ⟨v9, ev9, h⟩ := zbind h
  refine zo_getI 4 zkd_6 1 d_Pt_add_1 ev9 rfl tw_139 rfl ?_
  refine zi_bipush 16 d_Pt_add_4 rfl ?_
  refine zi_icmp_lt (tgt := 37) d_Pt_add_6 rfl (fun c10 => ?_) (fun c10 => ?_)
  · rw [if_pos c10] at h
    refine zi_lo [(0, .ref a0), (1, .int x1), (2, .int x2), (3, .int x3), (4, .ref a4)] [0, 1, 2, 3, 4] rfl ?_
    exact K_Pt_add_b37 n E S a0 x1 x2 x3 a4 M M'  h
  · rw [if_neg c10] at h
    refine zi_aload_n 0 d_Pt_add_9 rfl ?_
    obtain ⟨b11, eb11, h⟩ := zbind h
    refine zo_getR 13 zkd_6 0 d_Pt_add_10 eb11 rfl tw_138 rfl ?_
    refine zi_bipush 6 d_Pt_add_13 rfl ?_
    refine zi_aload_n 0 d_Pt_add_15 rfl ?_
    refine zo_getR 19 zkd_6 0 d_Pt_add_16 eb11 rfl tw_138 rfl ?_
    refine zi_iconst 0 d_Pt_add_19 rfl ?_
    refine zi_aload_n 0 d_Pt_add_20 rfl ?_
    refine zo_getR 24 zkd_6 0 d_Pt_add_21 eb11 rfl tw_138 rfl ?_
    obtain ⟨v12, ev12, h⟩ := zbind h
    refine zo_alen 25 d_Pt_add_24 ev12 (by decide) rfl ?_
    refine zi_bipush 6 d_Pt_add_25 rfl ?_
    refine zi_isub d_Pt_add_27 ?_
    obtain ⟨m13, em13, h⟩ := zbind h
    refine zo_cpy 31 d_Pt_add_28 em13 tw_873 zcpw rfl (by decide) (Nat.le_of_ble_eq_true rfl) ?_
    refine zi_aload_n 0 d_Pt_add_31 rfl ?_
    refine zi_bipush 15 d_Pt_add_32 rfl ?_
    obtain ⟨m14, em14, h⟩ := zbind h
    refine zo_putI 37 zkd_6 1 d_Pt_add_34 em14 rfl rfl rfl tw_139 rfl ?_
    refine zi_lo [(0, .ref a0), (1, .int x1), (2, .int x2), (3, .int x3), (4, .ref a4)] [0, 1, 2, 3, 4] rfl ?_
    exact K_Pt_add_b37 n E S a0 x1 x2 x3 a4 m14 M'  h
theorem C_Pt_add (n : Nat) (E : zE) (S : zS) (a0 : Nat) (x1 : Int32) (x2 : Int32) (x3 : Int32) (a4 : Nat) (M : zH) (M' : zH) (h : F_Pt_add n E S a0 x1 x2 x3 a4 M = some M') : zC E Y_Pt_add [.ref a0, .int x1, .int x2, .int x3, .ref a4] S M (none, S, M') :=
  zC.of (Or.inl (show plainName "NightColander$Past" = true by decide)) (Nat.le_of_ble_eq_true rfl) (trivial) (K_Pt_add n E S a0 x1 x2 x3 a4 M M' h)
theorem d_De_perform_0 : decode (yB Y_De_perform) 0 = .ok (.iload_n 3, 1) := by decide +kernel
theorem d_De_perform_1 : decode (yB Y_De_perform) 1 = .ok (.iconst 2, 1) := by decide +kernel
theorem d_De_perform_2 : decode (yB Y_De_perform) 2 = .ok (.if_icmp .ne 10, 3) := by decide +kernel
theorem d_De_perform_5 : decode (yB Y_De_perform) 5 = .ok (.aload_n 1, 1) := by decide +kernel
theorem d_De_perform_6 : decode (yB Y_De_perform) 6 = .ok (.getfield 15, 3) := by decide +kernel
theorem d_De_perform_9 : decode (yB Y_De_perform) 9 = .ok (.goto 7, 3) := by decide +kernel
theorem d_De_perform_12 : decode (yB Y_De_perform) 12 = .ok (.aload_n 1, 1) := by decide +kernel
theorem d_De_perform_13 : decode (yB Y_De_perform) 13 = .ok (.getfield 21, 3) := by decide +kernel
theorem d_De_perform_16 : decode (yB Y_De_perform) 16 = .ok (.astore 6, 2) := by decide +kernel
theorem d_De_perform_18 : decode (yB Y_De_perform) 18 = .ok (.aload_n 0, 1) := by decide +kernel
theorem d_De_perform_19 : decode (yB Y_De_perform) 19 = .ok (.aload_n 1, 1) := by decide +kernel
theorem d_De_perform_20 : decode (yB Y_De_perform) 20 = .ok (.iload_n 3, 1) := by decide +kernel
theorem d_De_perform_21 : decode (yB Y_De_perform) 21 = .ok (.iload 4, 2) := by decide +kernel
theorem d_De_perform_23 : decode (yB Y_De_perform) 23 = .ok (.iload 5, 2) := by decide +kernel
theorem d_De_perform_25 : decode (yB Y_De_perform) 25 = .ok (.invokevirtual 24, 3) := by decide +kernel
theorem d_De_perform_28 : decode (yB Y_De_perform) 28 = .ok (.istore 7, 2) := by decide +kernel
theorem d_De_perform_30 : decode (yB Y_De_perform) 30 = .ok (.iload 7, 2) := by decide +kernel
theorem d_De_perform_32 : decode (yB Y_De_perform) 32 = .ok (.ifCond .eq 6, 3) := by decide +kernel
theorem d_De_perform_35 : decode (yB Y_De_perform) 35 = .ok (.iload 7, 2) := by decide +kernel
theorem d_De_perform_37 : decode (yB Y_De_perform) 37 = .ok (.ireturn, 1) := by decide +kernel
theorem d_De_perform_38 : decode (yB Y_De_perform) 38 = .ok (.aload_n 2, 1) := by decide +kernel
theorem d_De_perform_39 : decode (yB Y_De_perform) 39 = .ok (.iload_n 3, 1) := by decide +kernel
theorem d_De_perform_40 : decode (yB Y_De_perform) 40 = .ok (.iload 4, 2) := by decide +kernel
theorem d_De_perform_42 : decode (yB Y_De_perform) 42 = .ok (.iload 5, 2) := by decide +kernel
theorem d_De_perform_44 : decode (yB Y_De_perform) 44 = .ok (.aload 6, 2) := by decide +kernel
theorem d_De_perform_46 : decode (yB Y_De_perform) 46 = .ok (.invokevirtual 28, 3) := by decide +kernel
theorem d_De_perform_49 : decode (yB Y_De_perform) 49 = .ok (.iload_n 3, 1) := by decide +kernel
theorem d_De_perform_50 : decode (yB Y_De_perform) 50 = .ok (.tableswitch 61 0 2 #[26, 39, 52], 26) := by decide +kernel
theorem d_De_perform_76 : decode (yB Y_De_perform) 76 = .ok (.aload_n 1, 1) := by decide +kernel
theorem d_De_perform_77 : decode (yB Y_De_perform) 77 = .ok (.iload 5, 2) := by decide +kernel
theorem d_De_perform_79 : decode (yB Y_De_perform) 79 = .ok (.bipush 8, 2) := by decide +kernel
theorem d_De_perform_81 : decode (yB Y_De_perform) 81 = .ok (.imul, 1) := by decide +kernel
theorem d_De_perform_82 : decode (yB Y_De_perform) 82 = .ok (.iload 4, 2) := by decide +kernel
theorem d_De_perform_84 : decode (yB Y_De_perform) 84 = .ok (.iadd, 1) := by decide +kernel
theorem d_De_perform_85 : decode (yB Y_De_perform) 85 = .ok (.invokestatic 34, 3) := by decide +kernel
theorem d_De_perform_88 : decode (yB Y_De_perform) 88 = .ok (.ireturn, 1) := by decide +kernel
theorem d_De_perform_89 : decode (yB Y_De_perform) 89 = .ok (.aload_n 1, 1) := by decide +kernel
theorem d_De_perform_90 : decode (yB Y_De_perform) 90 = .ok (.iload 5, 2) := by decide +kernel
theorem d_De_perform_92 : decode (yB Y_De_perform) 92 = .ok (.bipush 8, 2) := by decide +kernel
theorem d_De_perform_94 : decode (yB Y_De_perform) 94 = .ok (.imul, 1) := by decide +kernel
theorem d_De_perform_95 : decode (yB Y_De_perform) 95 = .ok (.iload 4, 2) := by decide +kernel
theorem d_De_perform_97 : decode (yB Y_De_perform) 97 = .ok (.iadd, 1) := by decide +kernel
theorem d_De_perform_98 : decode (yB Y_De_perform) 98 = .ok (.invokestatic 38, 3) := by decide +kernel
theorem d_De_perform_101 : decode (yB Y_De_perform) 101 = .ok (.ireturn, 1) := by decide +kernel
theorem d_De_perform_102 : decode (yB Y_De_perform) 102 = .ok (.aload_n 1, 1) := by decide +kernel
theorem d_De_perform_103 : decode (yB Y_De_perform) 103 = .ok (.iload 4, 2) := by decide +kernel
theorem d_De_perform_105 : decode (yB Y_De_perform) 105 = .ok (.iload 5, 2) := by decide +kernel
theorem d_De_perform_107 : decode (yB Y_De_perform) 107 = .ok (.invokestatic 41, 3) := by decide +kernel
theorem d_De_perform_110 : decode (yB Y_De_perform) 110 = .ok (.ireturn, 1) := by decide +kernel
theorem d_De_perform_111 : decode (yB Y_De_perform) 111 = .ok (.aload_n 0, 1) := by decide +kernel
theorem d_De_perform_112 : decode (yB Y_De_perform) 112 = .ok (.aload_n 1, 1) := by decide +kernel
theorem d_De_perform_113 : decode (yB Y_De_perform) 113 = .ok (.invokevirtual 45, 3) := by decide +kernel
theorem d_De_perform_116 : decode (yB Y_De_perform) 116 = .ok (.ireturn, 1) := by decide +kernel
def F_De_perform_b16 (n : Nat) (E : zE) (S : zS) (a0 : Nat) (a1 : Nat) (a2 : Nat) (x3 : Int32) (x4 : Int32) (x5 : Int32) (u0 : Nat) (M : zH) : Option (Int32 × zH) :=
  (zck S a0 0).bind fun u1 =>
  (F_De_refusalOf n E S a0 a1 x3 x4 x5 M).bind fun q2 =>
  if q2.1 = 0 then
    (zck S a2 6).bind fun u4 =>
    (F_Pt_add n E S a2 x3 x4 x5 u0 q2.2).bind fun q5 =>
    if x3 = 0 then
      (F_De_changeBlock n E S a1 ((x5 * 8) + x4) q5).bind fun q7 =>
      some (q7.1, q7.2)
    else
    if x3 = 1 then
      (F_De_widen n E S a1 ((x5 * 8) + x4) q5).bind fun q9 =>
      some (q9.1, q9.2)
    else
    if x3 = 2 then
      (F_De_move n E S a1 x4 x5 q5).bind fun q11 =>
      some (q11.1, q11.2)
    else
      (F_De_letHourPass n E S a0 a1 q5).bind fun q12 =>
      some (q12.1, q12.2)
  else
    some (q2.1, q2.2)
def F_De_perform (n : Nat) (E : zE) (S : zS) (a0 : Nat) (a1 : Nat) (a2 : Nat) (x3 : Int32) (x4 : Int32) (x5 : Int32) (M : zH) : Option (Int32 × zH) :=
  if x3 = 2 then
    (zgR S a1 3 5).bind fun b14 =>
    F_De_perform_b16 n E S a0 a1 a2 x3 x4 x5 b14 M
  else
    (zgR S a1 3 4).bind fun b15 =>
    F_De_perform_b16 n E S a0 a1 a2 x3 x4 x5 b15 M
theorem K_De_perform_b16 (n : Nat) (E : zE) (S : zS) (a0 : Nat) (a1 : Nat) (a2 : Nat) (x3 : Int32) (x4 : Int32) (x5 : Int32) (u0 : Nat) (M : zH) (r : Int32) (M' : zH)  (h : F_De_perform_b16 n E S a0 a1 a2 x3 x4 x5 u0 M = some (r, M')) : zG E Y_De_perform (some (.int r), S, M') 16 [(0, .ref a0), (1, .ref a1), (2, .ref a2), (3, .int x3), (4, .int x4), (5, .int x5)] [.ref u0] S M 0 0 := by
  unfold F_De_perform_b16 at h
  refine zi_astore [(6, .ref u0), (0, .ref a0), (1, .ref a1), (2, .ref a2), (3, .int x3), (4, .int x4), (5, .int x5)] d_De_perform_16 (by decide) rfl ?_
  refine zi_aload_n 1 d_De_perform_18 rfl ?_
  refine zi_aload_n 2 d_De_perform_19 rfl ?_
  refine zi_iload_n 4 d_De_perform_20 rfl ?_
  refine zi_iload 5 d_De_perform_21 rfl ?_
  refine zi_iload 6 d_De_perform_23 rfl ?_
  obtain ⟨u1, eu1, h⟩ := zbind h
  obtain ⟨q2, eq2, h⟩ := zbind h
  refine zo_virt (k' := 0) (n' := 0) 28 [.ref a1, .int x3, .int x4, .int x5] [] [.int q2.1] zkd_0 (zck_s eu1) (C_De_refusalOf n E S a0 a1 x3 x4 x5 M q2.1 q2.2 eq2) d_De_perform_25 tw_898 tw_895 tw_897 ts_22 tw_10 dd_De_refusalOf ⟨Nat.le_of_ble_eq_true rfl, Nat.le_of_ble_eq_true rfl, Nat.le_of_ble_eq_true rfl, Nat.le_of_ble_eq_true rfl⟩ (Nat.le_of_ble_eq_true rfl) rfl rfl rfl rfl ?_
  refine zi_istore [(7, .int q2.1), (6, .ref u0), (0, .ref a0), (1, .ref a1), (2, .ref a2), (3, .int x3), (4, .int x4), (5, .int x5)] d_De_perform_28 (by decide) rfl ?_
  refine zi_iload 0 d_De_perform_30 rfl ?_
  refine zi_if_eq (tgt := 38) d_De_perform_32 rfl (fun c3 => ?_) (fun c3 => ?_)
  · rw [if_pos c3] at h
    refine zi_aload_n 4 d_De_perform_38 rfl ?_
    refine zi_iload_n 5 d_De_perform_39 rfl ?_
    refine zi_iload 6 d_De_perform_40 rfl ?_
    refine zi_iload 7 d_De_perform_42 rfl ?_
    refine zi_aload 1 d_De_perform_44 rfl ?_
    obtain ⟨u4, eu4, h⟩ := zbind h
    obtain ⟨q5, eq5, h⟩ := zbind h
    refine zo_virt (k' := 0) (n' := 0) 49 [.int x3, .int x4, .int x5, .ref u0] [] [] zkd_6 (zck_s eu4) (C_Pt_add n E S a2 x3 x4 x5 u0 q2.2 q5 eq5) d_De_perform_46 tw_908 tw_905 tw_906 tw_907 tw_4 dd_Pt_add ⟨Nat.le_of_ble_eq_true rfl, Nat.le_of_ble_eq_true rfl, Nat.le_of_ble_eq_true rfl, Nat.le_of_ble_eq_true rfl⟩ (Nat.le_of_ble_eq_true rfl) rfl rfl rfl rfl ?_
    refine zi_iload_n 5 d_De_perform_49 rfl ?_
    by_cases c6 : x3 = 0
    · rw [if_pos c6] at h
      refine zo_tab (tgt := 76) 0 d_De_perform_50 c6 (by decide) (by decide) rfl rfl ?_
      refine zi_aload_n 3 d_De_perform_76 rfl ?_
      refine zi_iload 7 d_De_perform_77 rfl ?_
      refine zi_bipush 8 d_De_perform_79 rfl ?_
      refine zi_imul d_De_perform_81 ?_
      refine zi_iload 6 d_De_perform_82 rfl ?_
      refine zi_iadd d_De_perform_84 ?_
      obtain ⟨q7, eq7, h⟩ := zbind h
      refine zo_stat (k' := 0) (n' := 0) 88 [.ref a1, .int ((x5 * 8) + x4)] [] [.int q7.1] (C_De_changeBlock n E S a1 ((x5 * 8) + x4) q5 q7.1 q7.2 eq7) d_De_perform_85 tw_911 tw_909 tw_910 tw_10 dd_De_changeBlock ⟨Nat.le_of_ble_eq_true rfl, Nat.le_of_ble_eq_true rfl, Nat.le_of_ble_eq_true rfl, Nat.le_of_ble_eq_true rfl⟩ (Nat.le_of_ble_eq_true rfl) rfl rfl rfl rfl ?_
      cases h
      exact zo_ret d_De_perform_88 (Nat.le_of_ble_eq_true rfl) (Nat.le_of_ble_eq_true rfl) rfl
    rw [if_neg c6] at h
    by_cases c8 : x3 = 1
    · rw [if_pos c8] at h
      refine zo_tab (tgt := 89) 1 d_De_perform_50 c8 (by decide) (by decide) rfl rfl ?_
      refine zi_aload_n 3 d_De_perform_89 rfl ?_
      refine zi_iload 7 d_De_perform_90 rfl ?_
      refine zi_bipush 8 d_De_perform_92 rfl ?_
      refine zi_imul d_De_perform_94 ?_
      refine zi_iload 6 d_De_perform_95 rfl ?_
      refine zi_iadd d_De_perform_97 ?_
      obtain ⟨q9, eq9, h⟩ := zbind h
      refine zo_stat (k' := 0) (n' := 0) 101 [.ref a1, .int ((x5 * 8) + x4)] [] [.int q9.1] (C_De_widen n E S a1 ((x5 * 8) + x4) q5 q9.1 q9.2 eq9) d_De_perform_98 tw_914 tw_912 tw_913 tw_10 dd_De_widen ⟨Nat.le_of_ble_eq_true rfl, Nat.le_of_ble_eq_true rfl, Nat.le_of_ble_eq_true rfl, Nat.le_of_ble_eq_true rfl⟩ (Nat.le_of_ble_eq_true rfl) rfl rfl rfl rfl ?_
      cases h
      exact zo_ret d_De_perform_101 (Nat.le_of_ble_eq_true rfl) (Nat.le_of_ble_eq_true rfl) rfl
    rw [if_neg c8] at h
    by_cases c10 : x3 = 2
    · rw [if_pos c10] at h
      refine zo_tab (tgt := 102) 2 d_De_perform_50 c10 (by decide) (by decide) rfl rfl ?_
      refine zi_aload_n 3 d_De_perform_102 rfl ?_
      refine zi_iload 6 d_De_perform_103 rfl ?_
      refine zi_iload 7 d_De_perform_105 rfl ?_
      obtain ⟨q11, eq11, h⟩ := zbind h
      refine zo_stat (k' := 0) (n' := 0) 110 [.ref a1, .int x4, .int x5] [] [.int q11.1] (C_De_move n E S a1 x4 x5 q5 q11.1 q11.2 eq11) d_De_perform_107 tw_917 tw_915 tw_916 tw_10 dd_De_move ⟨Nat.le_of_ble_eq_true rfl, Nat.le_of_ble_eq_true rfl, Nat.le_of_ble_eq_true rfl, Nat.le_of_ble_eq_true rfl⟩ (Nat.le_of_ble_eq_true rfl) rfl rfl rfl rfl ?_
      cases h
      exact zo_ret d_De_perform_110 (Nat.le_of_ble_eq_true rfl) (Nat.le_of_ble_eq_true rfl) rfl
    rw [if_neg c10] at h
    refine zo_tabP (tgt := 111) 0 3 d_De_perform_50 rfl rfl (fun j hj => by match j, hj with | 0, _ => exact c6  | 1, _ => exact c8  | 2, _ => exact c10 | j + 3, hj => exact absurd hj (by omega)) rfl ?_
    refine zi_aload_n 2 d_De_perform_111 rfl ?_
    refine zi_aload_n 3 d_De_perform_112 rfl ?_
    obtain ⟨q12, eq12, h⟩ := zbind h
    refine zo_virt (k' := 0) (n' := 0) 116 [.ref a1] [] [.int q12.1] zkd_0 (zck_s eu1) (C_De_letHourPass n E S a0 a1 q5 q12.1 q12.2 eq12) d_De_perform_113 tw_921 tw_918 tw_920 ts_23 tw_10 dd_De_letHourPass ⟨Nat.le_of_ble_eq_true rfl, Nat.le_of_ble_eq_true rfl, Nat.le_of_ble_eq_true rfl, Nat.le_of_ble_eq_true rfl⟩ (Nat.le_of_ble_eq_true rfl) rfl rfl rfl rfl ?_
    cases h
    exact zo_ret d_De_perform_116 (Nat.le_of_ble_eq_true rfl) (Nat.le_of_ble_eq_true rfl) rfl
  · rw [if_neg c3] at h
    refine zi_iload 0 d_De_perform_35 rfl ?_
    cases h
    exact zo_ret d_De_perform_37 (Nat.le_of_ble_eq_true rfl) (Nat.le_of_ble_eq_true rfl) rfl
theorem K_De_perform (n : Nat) (E : zE) (S : zS) (a0 : Nat) (a1 : Nat) (a2 : Nat) (x3 : Int32) (x4 : Int32) (x5 : Int32) (M : zH) (r : Int32) (M' : zH)  (h : F_De_perform n E S a0 a1 a2 x3 x4 x5 M = some (r, M')) : zG E Y_De_perform (some (.int r), S, M') 0 [(0, .ref a0), (1, .ref a1), (2, .ref a2), (3, .int x3), (4, .int x4), (5, .int x5)] [] S M 0 0 := by
  unfold F_De_perform at h
  refine zi_iload_n 3 d_De_perform_0 rfl ?_
  refine zi_iconst 2 d_De_perform_1 rfl ?_
  refine zi_icmp_ne (tgt := 12) d_De_perform_2 rfl (fun c13 => ?_) (fun c13 => ?_)
  · rw [if_neg c13] at h
    refine zi_aload_n 1 d_De_perform_12 rfl ?_
    obtain ⟨b15, eb15, h⟩ := zbind h
    refine zo_getR 16 zkd_3 4 d_De_perform_13 eb15 rfl tw_61 rfl ?_
    refine zi_lo [(0, .ref a0), (1, .ref a1), (2, .ref a2), (3, .int x3), (4, .int x4), (5, .int x5)] [0, 1, 2, 3, 4, 5] rfl ?_
    exact K_De_perform_b16 n E S a0 a1 a2 x3 x4 x5 b15 M r M'  h
  · rw [if_pos c13] at h
    refine zi_aload_n 1 d_De_perform_5 rfl ?_
    obtain ⟨b14, eb14, h⟩ := zbind h
    refine zo_getR 9 zkd_3 5 d_De_perform_6 eb14 rfl tw_68 rfl ?_
    refine zi_goto (tgt := 16) d_De_perform_9 rfl ?_
    refine zi_lo [(0, .ref a0), (1, .ref a1), (2, .ref a2), (3, .int x3), (4, .int x4), (5, .int x5)] [0, 1, 2, 3, 4, 5] rfl ?_
    exact K_De_perform_b16 n E S a0 a1 a2 x3 x4 x5 b14 M r M'  h
theorem C_De_perform (n : Nat) (E : zE) (S : zS) (a0 : Nat) (a1 : Nat) (a2 : Nat) (x3 : Int32) (x4 : Int32) (x5 : Int32) (M : zH) (r : Int32) (M' : zH) (h : F_De_perform n E S a0 a1 a2 x3 x4 x5 M = some (r, M')) : zC E Y_De_perform [.ref a0, .ref a1, .ref a2, .int x3, .int x4, .int x5] S M (some (.int r), S, M') :=
  zC.of (Or.inl (show plainName "NightColander$Deeds" = true by decide)) (Nat.le_of_ble_eq_true rfl) (trivial) (K_De_perform n E S a0 a1 a2 x3 x4 x5 M r M' h)
theorem d_Ni_allLevels_0 : decode (yB Y_Ni_allLevels) 0 = .ok (.iconst 0, 1) := by decide +kernel
theorem d_Ni_allLevels_1 : decode (yB Y_Ni_allLevels) 1 = .ok (.istore_n 1, 1) := by decide +kernel
theorem d_Ni_allLevels_2 : decode (yB Y_Ni_allLevels) 2 = .ok (.iconst 0, 1) := by decide +kernel
theorem d_Ni_allLevels_3 : decode (yB Y_Ni_allLevels) 3 = .ok (.istore_n 2, 1) := by decide +kernel
theorem d_Ni_allLevels_4 : decode (yB Y_Ni_allLevels) 4 = .ok (.iload_n 2, 1) := by decide +kernel
theorem d_Ni_allLevels_5 : decode (yB Y_Ni_allLevels) 5 = .ok (.aload_n 0, 1) := by decide +kernel
theorem d_Ni_allLevels_6 : decode (yB Y_Ni_allLevels) 6 = .ok (.getfield 49, 3) := by decide +kernel
theorem d_Ni_allLevels_9 : decode (yB Y_Ni_allLevels) 9 = .ok (.if_icmp .ge 18, 3) := by decide +kernel
theorem d_Ni_allLevels_12 : decode (yB Y_Ni_allLevels) 12 = .ok (.iload_n 1, 1) := by decide +kernel
theorem d_Ni_allLevels_13 : decode (yB Y_Ni_allLevels) 13 = .ok (.aload_n 0, 1) := by decide +kernel
theorem d_Ni_allLevels_14 : decode (yB Y_Ni_allLevels) 14 = .ok (.getfield 25, 3) := by decide +kernel
theorem d_Ni_allLevels_17 : decode (yB Y_Ni_allLevels) 17 = .ok (.iload_n 2, 1) := by decide +kernel
theorem d_Ni_allLevels_18 : decode (yB Y_Ni_allLevels) 18 = .ok (.iaload, 1) := by decide +kernel
theorem d_Ni_allLevels_19 : decode (yB Y_Ni_allLevels) 19 = .ok (.iadd, 1) := by decide +kernel
theorem d_Ni_allLevels_20 : decode (yB Y_Ni_allLevels) 20 = .ok (.istore_n 1, 1) := by decide +kernel
theorem d_Ni_allLevels_21 : decode (yB Y_Ni_allLevels) 21 = .ok (.iinc 2 1, 3) := by decide +kernel
theorem d_Ni_allLevels_24 : decode (yB Y_Ni_allLevels) 24 = .ok (.goto (-20), 3) := by decide +kernel
theorem d_Ni_allLevels_27 : decode (yB Y_Ni_allLevels) 27 = .ok (.iload_n 1, 1) := by decide +kernel
theorem d_Ni_allLevels_28 : decode (yB Y_Ni_allLevels) 28 = .ok (.ireturn, 1) := by decide +kernel
def F_Ni_allLevels_L4 (n : Nat) (E : zE) (S : zS) (r4 : Nat × Int32 × Int32 × zH → Option (Int32 × zH)) (a0 : Nat) (x1 : Int32) (x2 : Int32) (M : zH) : Option (Int32 × zH) :=
  (zgI S M a0 3 11).bind fun v1 =>
  if v1 ≤ x2 then
    some (x1, M)
  else
    (zgR S a0 3 4).bind fun b3 =>
    (zldI S M b3 x2).bind fun v4 =>
    r4 (a0, x1 + v4, x2 + 1, M)
def F_Ni_allLevels_b4 (n : Nat) (E : zE) (S : zS) : Nat × Int32 × Int32 × zH → Option (Int32 × zH) := zfix (fun r4 s => F_Ni_allLevels_L4 n E S r4 s.1 s.2.1 s.2.2.1 s.2.2.2) n
def F_Ni_allLevels (n : Nat) (E : zE) (S : zS) (a0 : Nat) (M : zH) : Option (Int32 × zH) :=
  F_Ni_allLevels_b4 n E S (a0, 0, 0, M)
theorem K_Ni_allLevels_L4 (n : Nat) (E : zE) (S : zS) (r4 : Nat × Int32 × Int32 × zH → Option (Int32 × zH)) (a0 : Nat) (x1 : Int32) (x2 : Int32) (M : zH) (r : Int32) (M' : zH) (hr4 : ∀ (a0 : Nat) (x1 : Int32) (x2 : Int32) (M : zH), r4 (a0, x1, x2, M) = some (r, M') → zG E Y_Ni_allLevels (some (.int r), S, M') 4 [(0, .ref a0), (1, .int x1), (2, .int x2)] [] S M 0 0) (h : F_Ni_allLevels_L4 n E S r4 a0 x1 x2 M = some (r, M')) : zG E Y_Ni_allLevels (some (.int r), S, M') 4 [(0, .ref a0), (1, .int x1), (2, .int x2)] [] S M 0 0 := by
  unfold F_Ni_allLevels_L4 at h
  refine zi_iload_n 2 d_Ni_allLevels_4 rfl ?_
  refine zi_aload_n 0 d_Ni_allLevels_5 rfl ?_
  obtain ⟨v1, ev1, h⟩ := zbind h
  refine zo_getI 9 zkd_3 11 d_Ni_allLevels_6 ev1 rfl tw_86 rfl ?_
  refine zi_icmp_ge (tgt := 27) d_Ni_allLevels_9 rfl (fun c2 => ?_) (fun c2 => ?_)
  · rw [if_pos c2] at h
    refine zi_iload_n 1 d_Ni_allLevels_27 rfl ?_
    cases h
    exact zo_ret d_Ni_allLevels_28 (Nat.le_of_ble_eq_true rfl) (Nat.le_of_ble_eq_true rfl) rfl
  · rw [if_neg c2] at h
    refine zi_iload_n 1 d_Ni_allLevels_12 rfl ?_
    refine zi_aload_n 0 d_Ni_allLevels_13 rfl ?_
    obtain ⟨b3, eb3, h⟩ := zbind h
    refine zo_getR 17 zkd_3 4 d_Ni_allLevels_14 eb3 rfl tw_60 rfl ?_
    refine zi_iload_n 2 d_Ni_allLevels_17 rfl ?_
    obtain ⟨v4, ev4, h⟩ := zbind h
    refine zo_iald 19 d_Ni_allLevels_18 ev4 rfl ?_
    refine zi_iadd d_Ni_allLevels_19 ?_
    refine zi_istore_n [(1, .int (x1 + v4)), (0, .ref a0), (2, .int x2)] d_Ni_allLevels_20 (by decide) rfl ?_
    refine zi_iinc 2 (x2 + 1) [(2, .int (x2 + 1)), (1, .int (x1 + v4)), (0, .ref a0)] d_Ni_allLevels_21 rfl rfl (by decide) rfl ?_
    refine zi_goto (tgt := 4) d_Ni_allLevels_24 rfl ?_
    refine zi_lo [(0, .ref a0), (1, .int (x1 + v4)), (2, .int (x2 + 1))] [2, 1, 0] rfl ?_
    exact hr4 a0 (x1 + v4) (x2 + 1) M h
theorem K_Ni_allLevels_b4 (n : Nat) (E : zE) (S : zS) (a0 : Nat) (x1 : Int32) (x2 : Int32) (M : zH) (r : Int32) (M' : zH)  (h : F_Ni_allLevels_b4 n E S (a0, x1, x2, M) = some (r, M')) : zG E Y_Ni_allLevels (some (.int r), S, M') 4 [(0, .ref a0), (1, .int x1), (2, .int x2)] [] S M 0 0 := by
  have key : ∀ (k : Nat) (a0 : Nat) (x1 : Int32) (x2 : Int32) (M : zH), zfix (fun r4 s => F_Ni_allLevels_L4 n E S r4 s.1 s.2.1 s.2.2.1 s.2.2.2) k (a0, x1, x2, M) = some (r, M') → zG E Y_Ni_allLevels (some (.int r), S, M') 4 [(0, .ref a0), (1, .int x1), (2, .int x2)] [] S M 0 0 := by
    intro k
    induction k with
    | zero => intro a0 x1 x2 M h; cases h
    | succ k ih => intro a0 x1 x2 M h; exact K_Ni_allLevels_L4 n E S _ a0 x1 x2 M r M'  (fun a0 x1 x2 M h => ih a0 x1 x2 M h) h
  exact key n a0 x1 x2 M h
theorem K_Ni_allLevels (n : Nat) (E : zE) (S : zS) (a0 : Nat) (M : zH) (r : Int32) (M' : zH)  (h : F_Ni_allLevels n E S a0 M = some (r, M')) : zG E Y_Ni_allLevels (some (.int r), S, M') 0 [(0, .ref a0)] [] S M 0 0 := by
  unfold F_Ni_allLevels at h
  refine zi_iconst 0 d_Ni_allLevels_0 rfl ?_
  refine zi_istore_n [(1, .int 0), (0, .ref a0)] d_Ni_allLevels_1 (by decide) rfl ?_
  refine zi_iconst 0 d_Ni_allLevels_2 rfl ?_
  refine zi_istore_n [(2, .int 0), (1, .int 0), (0, .ref a0)] d_Ni_allLevels_3 (by decide) rfl ?_
  refine zi_lo [(0, .ref a0), (1, .int 0), (2, .int 0)] [2, 1, 0] rfl ?_
  exact K_Ni_allLevels_b4 n E S a0 0 0 M r M'  h
theorem C_Ni_allLevels (n : Nat) (E : zE) (S : zS) (a0 : Nat) (M : zH) (r : Int32) (M' : zH) (h : F_Ni_allLevels n E S a0 M = some (r, M')) : zC E Y_Ni_allLevels [.ref a0] S M (some (.int r), S, M') :=
  zC.of (Or.inl (show plainName "NightColander$Night" = true by decide)) (Nat.le_of_ble_eq_true rfl) (trivial) (K_Ni_allLevels n E S a0 M r M' h)
theorem d_Ru_findWords_0 : decode (yB Y_Ru_findWords) 0 = .ok (.aload_n 0, 1) := by decide +kernel
theorem d_Ru_findWords_1 : decode (yB Y_Ru_findWords) 1 = .ok (.getfield 18, 3) := by decide +kernel
theorem d_Ru_findWords_4 : decode (yB Y_Ru_findWords) 4 = .ok (.iconst 0, 1) := by decide +kernel
theorem d_Ru_findWords_5 : decode (yB Y_Ru_findWords) 5 = .ok (.aload_n 1, 1) := by decide +kernel
theorem d_Ru_findWords_6 : decode (yB Y_Ru_findWords) 6 = .ok (.getfield 68, 3) := by decide +kernel
theorem d_Ru_findWords_9 : decode (yB Y_Ru_findWords) 9 = .ok (.iconst 0, 1) := by decide +kernel
theorem d_Ru_findWords_10 : decode (yB Y_Ru_findWords) 10 = .ok (.iaload, 1) := by decide +kernel
theorem d_Ru_findWords_11 : decode (yB Y_Ru_findWords) 11 = .ok (.iastore, 1) := by decide +kernel
theorem d_Ru_findWords_12 : decode (yB Y_Ru_findWords) 12 = .ok (.aload_n 0, 1) := by decide +kernel
theorem d_Ru_findWords_13 : decode (yB Y_Ru_findWords) 13 = .ok (.getfield 18, 3) := by decide +kernel
theorem d_Ru_findWords_16 : decode (yB Y_Ru_findWords) 16 = .ok (.iconst 1, 1) := by decide +kernel
theorem d_Ru_findWords_17 : decode (yB Y_Ru_findWords) 17 = .ok (.aload_n 0, 1) := by decide +kernel
theorem d_Ru_findWords_18 : decode (yB Y_Ru_findWords) 18 = .ok (.getfield 22, 3) := by decide +kernel
theorem d_Ru_findWords_21 : decode (yB Y_Ru_findWords) 21 = .ok (.iastore, 1) := by decide +kernel
theorem d_Ru_findWords_22 : decode (yB Y_Ru_findWords) 22 = .ok (.aload_n 0, 1) := by decide +kernel
theorem d_Ru_findWords_23 : decode (yB Y_Ru_findWords) 23 = .ok (.getfield 18, 3) := by decide +kernel
theorem d_Ru_findWords_26 : decode (yB Y_Ru_findWords) 26 = .ok (.iconst 2, 1) := by decide +kernel
theorem d_Ru_findWords_27 : decode (yB Y_Ru_findWords) 27 = .ok (.aload_n 0, 1) := by decide +kernel
theorem d_Ru_findWords_28 : decode (yB Y_Ru_findWords) 28 = .ok (.getfield 26, 3) := by decide +kernel
theorem d_Ru_findWords_31 : decode (yB Y_Ru_findWords) 31 = .ok (.iastore, 1) := by decide +kernel
theorem d_Ru_findWords_32 : decode (yB Y_Ru_findWords) 32 = .ok (.aload_n 0, 1) := by decide +kernel
theorem d_Ru_findWords_33 : decode (yB Y_Ru_findWords) 33 = .ok (.getfield 18, 3) := by decide +kernel
theorem d_Ru_findWords_36 : decode (yB Y_Ru_findWords) 36 = .ok (.iconst 3, 1) := by decide +kernel
theorem d_Ru_findWords_37 : decode (yB Y_Ru_findWords) 37 = .ok (.aload_n 1, 1) := by decide +kernel
theorem d_Ru_findWords_38 : decode (yB Y_Ru_findWords) 38 = .ok (.invokevirtual 73, 3) := by decide +kernel
theorem d_Ru_findWords_41 : decode (yB Y_Ru_findWords) 41 = .ok (.iastore, 1) := by decide +kernel
theorem d_Ru_findWords_42 : decode (yB Y_Ru_findWords) 42 = .ok (.iconst 0, 1) := by decide +kernel
theorem d_Ru_findWords_43 : decode (yB Y_Ru_findWords) 43 = .ok (.istore_n 3, 1) := by decide +kernel
theorem d_Ru_findWords_44 : decode (yB Y_Ru_findWords) 44 = .ok (.iload_n 3, 1) := by decide +kernel
theorem d_Ru_findWords_45 : decode (yB Y_Ru_findWords) 45 = .ok (.iconst 4, 1) := by decide +kernel
theorem d_Ru_findWords_46 : decode (yB Y_Ru_findWords) 46 = .ok (.if_icmp .ge 23, 3) := by decide +kernel
theorem d_Ru_findWords_49 : decode (yB Y_Ru_findWords) 49 = .ok (.aload_n 0, 1) := by decide +kernel
theorem d_Ru_findWords_50 : decode (yB Y_Ru_findWords) 50 = .ok (.getfield 18, 3) := by decide +kernel
theorem d_Ru_findWords_53 : decode (yB Y_Ru_findWords) 53 = .ok (.iconst 4, 1) := by decide +kernel
theorem d_Ru_findWords_54 : decode (yB Y_Ru_findWords) 54 = .ok (.iload_n 3, 1) := by decide +kernel
theorem d_Ru_findWords_55 : decode (yB Y_Ru_findWords) 55 = .ok (.iadd, 1) := by decide +kernel
theorem d_Ru_findWords_56 : decode (yB Y_Ru_findWords) 56 = .ok (.aload_n 1, 1) := by decide +kernel
theorem d_Ru_findWords_57 : decode (yB Y_Ru_findWords) 57 = .ok (.getfield 77, 3) := by decide +kernel
theorem d_Ru_findWords_60 : decode (yB Y_Ru_findWords) 60 = .ok (.iload_n 3, 1) := by decide +kernel
theorem d_Ru_findWords_61 : decode (yB Y_Ru_findWords) 61 = .ok (.iaload, 1) := by decide +kernel
theorem d_Ru_findWords_62 : decode (yB Y_Ru_findWords) 62 = .ok (.iastore, 1) := by decide +kernel
theorem d_Ru_findWords_63 : decode (yB Y_Ru_findWords) 63 = .ok (.iinc 3 1, 3) := by decide +kernel
theorem d_Ru_findWords_66 : decode (yB Y_Ru_findWords) 66 = .ok (.goto (-22), 3) := by decide +kernel
theorem d_Ru_findWords_69 : decode (yB Y_Ru_findWords) 69 = .ok (.iconst 0, 1) := by decide +kernel
theorem d_Ru_findWords_70 : decode (yB Y_Ru_findWords) 70 = .ok (.istore_n 3, 1) := by decide +kernel
theorem d_Ru_findWords_71 : decode (yB Y_Ru_findWords) 71 = .ok (.iload_n 3, 1) := by decide +kernel
theorem d_Ru_findWords_72 : decode (yB Y_Ru_findWords) 72 = .ok (.iconst 3, 1) := by decide +kernel
theorem d_Ru_findWords_73 : decode (yB Y_Ru_findWords) 73 = .ok (.if_icmp .ge 36, 3) := by decide +kernel
theorem d_Ru_findWords_76 : decode (yB Y_Ru_findWords) 76 = .ok (.aload_n 0, 1) := by decide +kernel
theorem d_Ru_findWords_77 : decode (yB Y_Ru_findWords) 77 = .ok (.getfield 18, 3) := by decide +kernel
theorem d_Ru_findWords_80 : decode (yB Y_Ru_findWords) 80 = .ok (.bipush 8, 2) := by decide +kernel
theorem d_Ru_findWords_82 : decode (yB Y_Ru_findWords) 82 = .ok (.iload_n 3, 1) := by decide +kernel
theorem d_Ru_findWords_83 : decode (yB Y_Ru_findWords) 83 = .ok (.iadd, 1) := by decide +kernel
theorem d_Ru_findWords_84 : decode (yB Y_Ru_findWords) 84 = .ok (.aload_n 1, 1) := by decide +kernel
theorem d_Ru_findWords_85 : decode (yB Y_Ru_findWords) 85 = .ok (.iload_n 3, 1) := by decide +kernel
theorem d_Ru_findWords_86 : decode (yB Y_Ru_findWords) 86 = .ok (.invokevirtual 80, 3) := by decide +kernel
theorem d_Ru_findWords_89 : decode (yB Y_Ru_findWords) 89 = .ok (.ifCond .eq 12, 3) := by decide +kernel
theorem d_Ru_findWords_92 : decode (yB Y_Ru_findWords) 92 = .ok (.aload_n 1, 1) := by decide +kernel
theorem d_Ru_findWords_93 : decode (yB Y_Ru_findWords) 93 = .ok (.getfield 84, 3) := by decide +kernel
theorem d_Ru_findWords_96 : decode (yB Y_Ru_findWords) 96 = .ok (.iload_n 3, 1) := by decide +kernel
theorem d_Ru_findWords_97 : decode (yB Y_Ru_findWords) 97 = .ok (.iaload, 1) := by decide +kernel
theorem d_Ru_findWords_98 : decode (yB Y_Ru_findWords) 98 = .ok (.goto 4, 3) := by decide +kernel
theorem d_Ru_findWords_101 : decode (yB Y_Ru_findWords) 101 = .ok (.iconst (-1), 1) := by decide +kernel
theorem d_Ru_findWords_102 : decode (yB Y_Ru_findWords) 102 = .ok (.iastore, 1) := by decide +kernel
theorem d_Ru_findWords_103 : decode (yB Y_Ru_findWords) 103 = .ok (.iinc 3 1, 3) := by decide +kernel
theorem d_Ru_findWords_106 : decode (yB Y_Ru_findWords) 106 = .ok (.goto (-35), 3) := by decide +kernel
theorem d_Ru_findWords_109 : decode (yB Y_Ru_findWords) 109 = .ok (.iconst 0, 1) := by decide +kernel
theorem d_Ru_findWords_110 : decode (yB Y_Ru_findWords) 110 = .ok (.istore_n 3, 1) := by decide +kernel
theorem d_Ru_findWords_111 : decode (yB Y_Ru_findWords) 111 = .ok (.iload_n 3, 1) := by decide +kernel
theorem d_Ru_findWords_112 : decode (yB Y_Ru_findWords) 112 = .ok (.bipush 8, 2) := by decide +kernel
theorem d_Ru_findWords_114 : decode (yB Y_Ru_findWords) 114 = .ok (.if_icmp .ge 38, 3) := by decide +kernel
theorem d_Ru_findWords_117 : decode (yB Y_Ru_findWords) 117 = .ok (.iload_n 2, 1) := by decide +kernel
theorem d_Ru_findWords_118 : decode (yB Y_Ru_findWords) 118 = .ok (.iconst 1, 1) := by decide +kernel
theorem d_Ru_findWords_119 : decode (yB Y_Ru_findWords) 119 = .ok (.bipush 11, 2) := by decide +kernel
theorem d_Ru_findWords_121 : decode (yB Y_Ru_findWords) 121 = .ok (.iload_n 3, 1) := by decide +kernel
theorem d_Ru_findWords_122 : decode (yB Y_Ru_findWords) 122 = .ok (.iadd, 1) := by decide +kernel
theorem d_Ru_findWords_123 : decode (yB Y_Ru_findWords) 123 = .ok (.ishl, 1) := by decide +kernel
theorem d_Ru_findWords_124 : decode (yB Y_Ru_findWords) 124 = .ok (.iand, 1) := by decide +kernel
theorem d_Ru_findWords_125 : decode (yB Y_Ru_findWords) 125 = .ok (.ifCond .eq 21, 3) := by decide +kernel
theorem d_Ru_findWords_128 : decode (yB Y_Ru_findWords) 128 = .ok (.aload_n 0, 1) := by decide +kernel
theorem d_Ru_findWords_129 : decode (yB Y_Ru_findWords) 129 = .ok (.getfield 18, 3) := by decide +kernel
theorem d_Ru_findWords_132 : decode (yB Y_Ru_findWords) 132 = .ok (.bipush 11, 2) := by decide +kernel
theorem d_Ru_findWords_134 : decode (yB Y_Ru_findWords) 134 = .ok (.iload_n 3, 1) := by decide +kernel
theorem d_Ru_findWords_135 : decode (yB Y_Ru_findWords) 135 = .ok (.iadd, 1) := by decide +kernel
theorem d_Ru_findWords_136 : decode (yB Y_Ru_findWords) 136 = .ok (.aload_n 0, 1) := by decide +kernel
theorem d_Ru_findWords_137 : decode (yB Y_Ru_findWords) 137 = .ok (.getfield 29, 3) := by decide +kernel
theorem d_Ru_findWords_140 : decode (yB Y_Ru_findWords) 140 = .ok (.aload_n 1, 1) := by decide +kernel
theorem d_Ru_findWords_141 : decode (yB Y_Ru_findWords) 141 = .ok (.iload_n 3, 1) := by decide +kernel
theorem d_Ru_findWords_142 : decode (yB Y_Ru_findWords) 142 = .ok (.invokevirtual 87, 3) := by decide +kernel
theorem d_Ru_findWords_145 : decode (yB Y_Ru_findWords) 145 = .ok (.iastore, 1) := by decide +kernel
theorem d_Ru_findWords_146 : decode (yB Y_Ru_findWords) 146 = .ok (.iinc 3 1, 3) := by decide +kernel
theorem d_Ru_findWords_149 : decode (yB Y_Ru_findWords) 149 = .ok (.goto (-38), 3) := by decide +kernel
theorem d_Ru_findWords_152 : decode (yB Y_Ru_findWords) 152 = .ok (.return_, 1) := by decide +kernel
def F_Ru_findWords_b102 (n : Nat) (E : zE) (S : zS) (r71 : Nat × Nat × Int32 × Int32 × zH → Option (zH)) (a0 : Nat) (a1 : Nat) (x2 : Int32) (x3 : Int32) (s0 : Int32) (s1 : Int32) (u2 : Nat) (M : zH) : Option (zH) :=
  (zstI S M u2 s1 s0).bind fun m1 =>
  r71 (a0, a1, x2, x3 + 1, m1)
def F_Ru_findWords_b146 (n : Nat) (E : zE) (S : zS) (r111 : Nat × Nat × Int32 × Int32 × zH → Option (zH)) (a0 : Nat) (a1 : Nat) (x2 : Int32) (x3 : Int32) (M : zH) : Option (zH) :=
  r111 (a0, a1, x2, x3 + 1, M)
def F_Ru_findWords_L111 (n : Nat) (E : zE) (S : zS) (r111 : Nat × Nat × Int32 × Int32 × zH → Option (zH)) (a0 : Nat) (a1 : Nat) (x2 : Int32) (x3 : Int32) (M : zH) : Option (zH) :=
  if 8 ≤ x3 then
    some (M)
  else
    if (x2 &&& ((1 : Int32) <<< ((11 + x3) &&& (31 : Int32)))) = 0 then
      F_Ru_findWords_b146 n E S r111 a0 a1 x2 x3 M
    else
      (zgR S a0 7 3).bind fun b4 =>
      (zgR S a0 7 0).bind fun b5 =>
      (zck S b5 1).bind fun u6 =>
      (F_Ju_threadsOn n E S b5 a1 x3 M).bind fun q7 =>
      (zstI S q7.2 b4 (11 + x3) q7.1).bind fun m8 =>
      F_Ru_findWords_b146 n E S r111 a0 a1 x2 x3 m8
def F_Ru_findWords_b111 (n : Nat) (E : zE) (S : zS) : Nat × Nat × Int32 × Int32 × zH → Option (zH) := zfix (fun r111 s => F_Ru_findWords_L111 n E S r111 s.1 s.2.1 s.2.2.1 s.2.2.2.1 s.2.2.2.2) n
def F_Ru_findWords_L71 (n : Nat) (E : zE) (S : zS) (r71 : Nat × Nat × Int32 × Int32 × zH → Option (zH)) (a0 : Nat) (a1 : Nat) (x2 : Int32) (x3 : Int32) (M : zH) : Option (zH) :=
  if 3 ≤ x3 then
    F_Ru_findWords_b111 n E S (a0, a1, x2, 0, M)
  else
    (zgR S a0 7 3).bind fun b10 =>
    (zck S a1 3).bind fun u11 =>
    (F_Ni_hasBucket n E S a1 x3 M).bind fun q12 =>
    if q12.1 = true then
      (zgR S a1 3 4).bind fun b14 =>
      (zldI S q12.2 b14 x3).bind fun v15 =>
      F_Ru_findWords_b102 n E S r71 a0 a1 x2 x3 v15 (8 + x3) b10 q12.2
    else
      F_Ru_findWords_b102 n E S r71 a0 a1 x2 x3 (-1) (8 + x3) b10 q12.2
def F_Ru_findWords_b71 (n : Nat) (E : zE) (S : zS) : Nat × Nat × Int32 × Int32 × zH → Option (zH) := zfix (fun r71 s => F_Ru_findWords_L71 n E S r71 s.1 s.2.1 s.2.2.1 s.2.2.2.1 s.2.2.2.2) n
def F_Ru_findWords_L44 (n : Nat) (E : zE) (S : zS) (r44 : Nat × Nat × Int32 × Int32 × zH → Option (zH)) (a0 : Nat) (a1 : Nat) (x2 : Int32) (x3 : Int32) (M : zH) : Option (zH) :=
  if 4 ≤ x3 then
    F_Ru_findWords_b71 n E S (a0, a1, x2, 0, M)
  else
    (zgR S a0 7 3).bind fun b17 =>
    (zgR S a1 3 2).bind fun b18 =>
    (zldI S M b18 x3).bind fun v19 =>
    (zstI S M b17 (4 + x3) v19).bind fun m20 =>
    r44 (a0, a1, x2, x3 + 1, m20)
def F_Ru_findWords_b44 (n : Nat) (E : zE) (S : zS) : Nat × Nat × Int32 × Int32 × zH → Option (zH) := zfix (fun r44 s => F_Ru_findWords_L44 n E S r44 s.1 s.2.1 s.2.2.1 s.2.2.2.1 s.2.2.2.2) n
def F_Ru_findWords (n : Nat) (E : zE) (S : zS) (a0 : Nat) (a1 : Nat) (x2 : Int32) (M : zH) : Option (zH) :=
  (zgR S a0 7 3).bind fun b21 =>
  (zgR S a1 3 9).bind fun b22 =>
  (zldI S M b22 0).bind fun v23 =>
  (zstI S M b21 0 v23).bind fun m24 =>
  (zgI S m24 a0 7 4).bind fun v25 =>
  (zstI S m24 b21 1 v25).bind fun m26 =>
  (zgI S m26 a0 7 5).bind fun v27 =>
  (zstI S m26 b21 2 v27).bind fun m28 =>
  (F_Ni_allLevels n E S a1 m28).bind fun q29 =>
  (zstI S q29.2 b21 3 q29.1).bind fun m30 =>
  F_Ru_findWords_b44 n E S (a0, a1, x2, 0, m30)
theorem K_Ru_findWords_b102 (n : Nat) (E : zE) (S : zS) (r71 : Nat × Nat × Int32 × Int32 × zH → Option (zH)) (a0 : Nat) (a1 : Nat) (x2 : Int32) (x3 : Int32) (s0 : Int32) (s1 : Int32) (u2 : Nat) (M : zH) (M' : zH) (hr71 : ∀ (a0 : Nat) (a1 : Nat) (x2 : Int32) (x3 : Int32) (M : zH), r71 (a0, a1, x2, x3, M) = some M' → zG E Y_Ru_findWords (none, S, M') 71 [(0, .ref a0), (1, .ref a1), (2, .int x2), (3, .int x3)] [] S M 0 0) (h : F_Ru_findWords_b102 n E S r71 a0 a1 x2 x3 s0 s1 u2 M = some M') : zG E Y_Ru_findWords (none, S, M') 102 [(0, .ref a0), (1, .ref a1), (2, .int x2), (3, .int x3)] [.int s0, .int s1, .ref u2] S M 0 0 := by
  unfold F_Ru_findWords_b102 at h
  obtain ⟨m1, em1, h⟩ := zbind h
  refine zo_iast 103 d_Ru_findWords_102 em1 rfl ?_
  refine zi_iinc 3 (x3 + 1) [(3, .int (x3 + 1)), (0, .ref a0), (1, .ref a1), (2, .int x2)] d_Ru_findWords_103 rfl rfl (by decide) rfl ?_
  refine zi_goto (tgt := 71) d_Ru_findWords_106 rfl ?_
  refine zi_lo [(0, .ref a0), (1, .ref a1), (2, .int x2), (3, .int (x3 + 1))] [1, 2, 3, 0] rfl ?_
  exact hr71 a0 a1 x2 (x3 + 1) m1 h
theorem K_Ru_findWords_b146 (n : Nat) (E : zE) (S : zS) (r111 : Nat × Nat × Int32 × Int32 × zH → Option (zH)) (a0 : Nat) (a1 : Nat) (x2 : Int32) (x3 : Int32) (M : zH) (M' : zH) (hr111 : ∀ (a0 : Nat) (a1 : Nat) (x2 : Int32) (x3 : Int32) (M : zH), r111 (a0, a1, x2, x3, M) = some M' → zG E Y_Ru_findWords (none, S, M') 111 [(0, .ref a0), (1, .ref a1), (2, .int x2), (3, .int x3)] [] S M 0 0) (h : F_Ru_findWords_b146 n E S r111 a0 a1 x2 x3 M = some M') : zG E Y_Ru_findWords (none, S, M') 146 [(0, .ref a0), (1, .ref a1), (2, .int x2), (3, .int x3)] [] S M 0 0 := by
  unfold F_Ru_findWords_b146 at h
  refine zi_iinc 3 (x3 + 1) [(3, .int (x3 + 1)), (0, .ref a0), (1, .ref a1), (2, .int x2)] d_Ru_findWords_146 rfl rfl (by decide) rfl ?_
  refine zi_goto (tgt := 111) d_Ru_findWords_149 rfl ?_
  refine zi_lo [(0, .ref a0), (1, .ref a1), (2, .int x2), (3, .int (x3 + 1))] [1, 2, 3, 0] rfl ?_
  exact hr111 a0 a1 x2 (x3 + 1) M h
theorem K_Ru_findWords_L111 (n : Nat) (E : zE) (S : zS) (r111 : Nat × Nat × Int32 × Int32 × zH → Option (zH)) (a0 : Nat) (a1 : Nat) (x2 : Int32) (x3 : Int32) (M : zH) (M' : zH) (hr111 : ∀ (a0 : Nat) (a1 : Nat) (x2 : Int32) (x3 : Int32) (M : zH), r111 (a0, a1, x2, x3, M) = some M' → zG E Y_Ru_findWords (none, S, M') 111 [(0, .ref a0), (1, .ref a1), (2, .int x2), (3, .int x3)] [] S M 0 0) (h : F_Ru_findWords_L111 n E S r111 a0 a1 x2 x3 M = some M') : zG E Y_Ru_findWords (none, S, M') 111 [(0, .ref a0), (1, .ref a1), (2, .int x2), (3, .int x3)] [] S M 0 0 := by
  unfold F_Ru_findWords_L111 at h
  refine zi_iload_n 3 d_Ru_findWords_111 rfl ?_
  refine zi_bipush 8 d_Ru_findWords_112 rfl ?_
  refine zi_icmp_ge (tgt := 152) d_Ru_findWords_114 rfl (fun c2 => ?_) (fun c2 => ?_)
  · rw [if_pos c2] at h
    cases h
    exact zo_ret d_Ru_findWords_152 (Nat.le_of_ble_eq_true rfl) (Nat.le_of_ble_eq_true rfl) rfl
  · rw [if_neg c2] at h
    refine zi_iload_n 2 d_Ru_findWords_117 rfl ?_
    refine zi_iconst 1 d_Ru_findWords_118 rfl ?_
    refine zi_bipush 11 d_Ru_findWords_119 rfl ?_
    refine zi_iload_n 3 d_Ru_findWords_121 rfl ?_
    refine zi_iadd d_Ru_findWords_122 ?_
    refine zi_ishl d_Ru_findWords_123 ?_
    refine zi_iand d_Ru_findWords_124 ?_
    refine zi_if_eq (tgt := 146) d_Ru_findWords_125 rfl (fun c3 => ?_) (fun c3 => ?_)
    · rw [if_pos c3] at h
      refine zi_lo [(0, .ref a0), (1, .ref a1), (2, .int x2), (3, .int x3)] [0, 1, 2, 3] rfl ?_
      exact K_Ru_findWords_b146 n E S r111 a0 a1 x2 x3 M M' hr111 h
    · rw [if_neg c3] at h
      refine zi_aload_n 0 d_Ru_findWords_128 rfl ?_
      obtain ⟨b4, eb4, h⟩ := zbind h
      refine zo_getR 132 zkd_7 3 d_Ru_findWords_129 eb4 rfl tw_273 rfl ?_
      refine zi_bipush 11 d_Ru_findWords_132 rfl ?_
      refine zi_iload_n 3 d_Ru_findWords_134 rfl ?_
      refine zi_iadd d_Ru_findWords_135 ?_
      refine zi_aload_n 0 d_Ru_findWords_136 rfl ?_
      obtain ⟨b5, eb5, h⟩ := zbind h
      refine zo_getR 140 zkd_7 0 d_Ru_findWords_137 eb5 rfl tw_270 rfl ?_
      refine zi_aload_n 1 d_Ru_findWords_140 rfl ?_
      refine zi_iload_n 3 d_Ru_findWords_141 rfl ?_
      obtain ⟨u6, eu6, h⟩ := zbind h
      obtain ⟨q7, eq7, h⟩ := zbind h
      refine zo_virt (k' := 0) (n' := 0) 145 [.ref a1, .int x3] [.int (11 + x3), .ref b4] [.int q7.1, .int (11 + x3), .ref b4] zkd_1 (zck_s eu6) (C_Ju_threadsOn n E S b5 a1 x3 M q7.1 q7.2 eq7) d_Ru_findWords_142 tw_514 tw_888 tw_512 tw_513 tw_8 dd_Ju_threadsOn ⟨Nat.le_of_ble_eq_true rfl, Nat.le_of_ble_eq_true rfl, Nat.le_of_ble_eq_true rfl, Nat.le_of_ble_eq_true rfl⟩ (Nat.le_of_ble_eq_true rfl) rfl rfl rfl rfl ?_
      obtain ⟨m8, em8, h⟩ := zbind h
      refine zo_iast 146 d_Ru_findWords_145 em8 rfl ?_
      refine zi_lo [(0, .ref a0), (1, .ref a1), (2, .int x2), (3, .int x3)] [0, 1, 2, 3] rfl ?_
      exact K_Ru_findWords_b146 n E S r111 a0 a1 x2 x3 m8 M' hr111 h
theorem K_Ru_findWords_b111 (n : Nat) (E : zE) (S : zS) (a0 : Nat) (a1 : Nat) (x2 : Int32) (x3 : Int32) (M : zH) (M' : zH)  (h : F_Ru_findWords_b111 n E S (a0, a1, x2, x3, M) = some M') : zG E Y_Ru_findWords (none, S, M') 111 [(0, .ref a0), (1, .ref a1), (2, .int x2), (3, .int x3)] [] S M 0 0 := by
  have key : ∀ (k : Nat) (a0 : Nat) (a1 : Nat) (x2 : Int32) (x3 : Int32) (M : zH), zfix (fun r111 s => F_Ru_findWords_L111 n E S r111 s.1 s.2.1 s.2.2.1 s.2.2.2.1 s.2.2.2.2) k (a0, a1, x2, x3, M) = some M' → zG E Y_Ru_findWords (none, S, M') 111 [(0, .ref a0), (1, .ref a1), (2, .int x2), (3, .int x3)] [] S M 0 0 := by
    intro k
    induction k with
    | zero => intro a0 a1 x2 x3 M h; cases h
    | succ k ih => intro a0 a1 x2 x3 M h; exact K_Ru_findWords_L111 n E S _ a0 a1 x2 x3 M M'  (fun a0 a1 x2 x3 M h => ih a0 a1 x2 x3 M h) h
  exact key n a0 a1 x2 x3 M h
theorem K_Ru_findWords_L71 (n : Nat) (E : zE) (S : zS) (r71 : Nat × Nat × Int32 × Int32 × zH → Option (zH)) (a0 : Nat) (a1 : Nat) (x2 : Int32) (x3 : Int32) (M : zH) (M' : zH) (hr71 : ∀ (a0 : Nat) (a1 : Nat) (x2 : Int32) (x3 : Int32) (M : zH), r71 (a0, a1, x2, x3, M) = some M' → zG E Y_Ru_findWords (none, S, M') 71 [(0, .ref a0), (1, .ref a1), (2, .int x2), (3, .int x3)] [] S M 0 0) (h : F_Ru_findWords_L71 n E S r71 a0 a1 x2 x3 M = some M') : zG E Y_Ru_findWords (none, S, M') 71 [(0, .ref a0), (1, .ref a1), (2, .int x2), (3, .int x3)] [] S M 0 0 := by
  unfold F_Ru_findWords_L71 at h
  refine zi_iload_n 3 d_Ru_findWords_71 rfl ?_
  refine zi_iconst 3 d_Ru_findWords_72 rfl ?_
  refine zi_icmp_ge (tgt := 109) d_Ru_findWords_73 rfl (fun c9 => ?_) (fun c9 => ?_)
  · rw [if_pos c9] at h
    refine zi_iconst 0 d_Ru_findWords_109 rfl ?_
    refine zi_istore_n [(3, .int 0), (0, .ref a0), (1, .ref a1), (2, .int x2)] d_Ru_findWords_110 (by decide) rfl ?_
    refine zi_lo [(0, .ref a0), (1, .ref a1), (2, .int x2), (3, .int 0)] [1, 2, 3, 0] rfl ?_
    exact K_Ru_findWords_b111 n E S a0 a1 x2 0 M M'  h
  · rw [if_neg c9] at h
    refine zi_aload_n 0 d_Ru_findWords_76 rfl ?_
    obtain ⟨b10, eb10, h⟩ := zbind h
    refine zo_getR 80 zkd_7 3 d_Ru_findWords_77 eb10 rfl tw_273 rfl ?_
    refine zi_bipush 8 d_Ru_findWords_80 rfl ?_
    refine zi_iload_n 3 d_Ru_findWords_82 rfl ?_
    refine zi_iadd d_Ru_findWords_83 ?_
    refine zi_aload_n 1 d_Ru_findWords_84 rfl ?_
    refine zi_iload_n 3 d_Ru_findWords_85 rfl ?_
    obtain ⟨u11, eu11, h⟩ := zbind h
    obtain ⟨q12, eq12, h⟩ := zbind h
    refine zo_virt (k' := 0) (n' := 0) 89 [.int x3] [.int (8 + x3), .ref b10] [.int (bI q12.1), .int (8 + x3), .ref b10] zkd_3 (zck_s eu11) (C_Ni_hasBucket n E S a1 x3 M q12.1 q12.2 eq12) d_Ru_findWords_86 tw_481 tw_887 tw_479 tw_480 tw_2 dd_Ni_hasBucket ⟨Nat.le_of_ble_eq_true rfl, Nat.le_of_ble_eq_true rfl, Nat.le_of_ble_eq_true rfl, Nat.le_of_ble_eq_true rfl⟩ (Nat.le_of_ble_eq_true rfl) rfl rfl rfl rfl ?_
    refine zo_ifeqB d_Ru_findWords_89 rfl 92 rfl (fun c13 => ?_) (fun c13 => ?_)
    · rw [if_neg c13] at h
      refine zi_iconst (-1) d_Ru_findWords_101 rfl ?_
      refine zi_lo [(0, .ref a0), (1, .ref a1), (2, .int x2), (3, .int x3)] [0, 1, 2, 3] rfl ?_
      exact K_Ru_findWords_b102 n E S r71 a0 a1 x2 x3 (-1) (8 + x3) b10 q12.2 M' hr71 h
    · rw [if_pos c13] at h
      refine zi_aload_n 1 d_Ru_findWords_92 rfl ?_
      obtain ⟨b14, eb14, h⟩ := zbind h
      refine zo_getR 96 zkd_3 4 d_Ru_findWords_93 eb14 rfl tw_62 rfl ?_
      refine zi_iload_n 3 d_Ru_findWords_96 rfl ?_
      obtain ⟨v15, ev15, h⟩ := zbind h
      refine zo_iald 98 d_Ru_findWords_97 ev15 rfl ?_
      refine zi_goto (tgt := 102) d_Ru_findWords_98 rfl ?_
      refine zi_lo [(0, .ref a0), (1, .ref a1), (2, .int x2), (3, .int x3)] [0, 1, 2, 3] rfl ?_
      exact K_Ru_findWords_b102 n E S r71 a0 a1 x2 x3 v15 (8 + x3) b10 q12.2 M' hr71 h
theorem K_Ru_findWords_b71 (n : Nat) (E : zE) (S : zS) (a0 : Nat) (a1 : Nat) (x2 : Int32) (x3 : Int32) (M : zH) (M' : zH)  (h : F_Ru_findWords_b71 n E S (a0, a1, x2, x3, M) = some M') : zG E Y_Ru_findWords (none, S, M') 71 [(0, .ref a0), (1, .ref a1), (2, .int x2), (3, .int x3)] [] S M 0 0 := by
  have key : ∀ (k : Nat) (a0 : Nat) (a1 : Nat) (x2 : Int32) (x3 : Int32) (M : zH), zfix (fun r71 s => F_Ru_findWords_L71 n E S r71 s.1 s.2.1 s.2.2.1 s.2.2.2.1 s.2.2.2.2) k (a0, a1, x2, x3, M) = some M' → zG E Y_Ru_findWords (none, S, M') 71 [(0, .ref a0), (1, .ref a1), (2, .int x2), (3, .int x3)] [] S M 0 0 := by
    intro k
    induction k with
    | zero => intro a0 a1 x2 x3 M h; cases h
    | succ k ih => intro a0 a1 x2 x3 M h; exact K_Ru_findWords_L71 n E S _ a0 a1 x2 x3 M M'  (fun a0 a1 x2 x3 M h => ih a0 a1 x2 x3 M h) h
  exact key n a0 a1 x2 x3 M h
theorem K_Ru_findWords_L44 (n : Nat) (E : zE) (S : zS) (r44 : Nat × Nat × Int32 × Int32 × zH → Option (zH)) (a0 : Nat) (a1 : Nat) (x2 : Int32) (x3 : Int32) (M : zH) (M' : zH) (hr44 : ∀ (a0 : Nat) (a1 : Nat) (x2 : Int32) (x3 : Int32) (M : zH), r44 (a0, a1, x2, x3, M) = some M' → zG E Y_Ru_findWords (none, S, M') 44 [(0, .ref a0), (1, .ref a1), (2, .int x2), (3, .int x3)] [] S M 0 0) (h : F_Ru_findWords_L44 n E S r44 a0 a1 x2 x3 M = some M') : zG E Y_Ru_findWords (none, S, M') 44 [(0, .ref a0), (1, .ref a1), (2, .int x2), (3, .int x3)] [] S M 0 0 := by
  unfold F_Ru_findWords_L44 at h
  refine zi_iload_n 3 d_Ru_findWords_44 rfl ?_
  refine zi_iconst 4 d_Ru_findWords_45 rfl ?_
  refine zi_icmp_ge (tgt := 69) d_Ru_findWords_46 rfl (fun c16 => ?_) (fun c16 => ?_)
  · rw [if_pos c16] at h
    refine zi_iconst 0 d_Ru_findWords_69 rfl ?_
    refine zi_istore_n [(3, .int 0), (0, .ref a0), (1, .ref a1), (2, .int x2)] d_Ru_findWords_70 (by decide) rfl ?_
    refine zi_lo [(0, .ref a0), (1, .ref a1), (2, .int x2), (3, .int 0)] [1, 2, 3, 0] rfl ?_
    exact K_Ru_findWords_b71 n E S a0 a1 x2 0 M M'  h
  · rw [if_neg c16] at h
    refine zi_aload_n 0 d_Ru_findWords_49 rfl ?_
    obtain ⟨b17, eb17, h⟩ := zbind h
    refine zo_getR 53 zkd_7 3 d_Ru_findWords_50 eb17 rfl tw_273 rfl ?_
    refine zi_iconst 4 d_Ru_findWords_53 rfl ?_
    refine zi_iload_n 3 d_Ru_findWords_54 rfl ?_
    refine zi_iadd d_Ru_findWords_55 ?_
    refine zi_aload_n 1 d_Ru_findWords_56 rfl ?_
    obtain ⟨b18, eb18, h⟩ := zbind h
    refine zo_getR 60 zkd_3 2 d_Ru_findWords_57 eb18 rfl tw_54 rfl ?_
    refine zi_iload_n 3 d_Ru_findWords_60 rfl ?_
    obtain ⟨v19, ev19, h⟩ := zbind h
    refine zo_iald 62 d_Ru_findWords_61 ev19 rfl ?_
    obtain ⟨m20, em20, h⟩ := zbind h
    refine zo_iast 63 d_Ru_findWords_62 em20 rfl ?_
    refine zi_iinc 3 (x3 + 1) [(3, .int (x3 + 1)), (0, .ref a0), (1, .ref a1), (2, .int x2)] d_Ru_findWords_63 rfl rfl (by decide) rfl ?_
    refine zi_goto (tgt := 44) d_Ru_findWords_66 rfl ?_
    refine zi_lo [(0, .ref a0), (1, .ref a1), (2, .int x2), (3, .int (x3 + 1))] [1, 2, 3, 0] rfl ?_
    exact hr44 a0 a1 x2 (x3 + 1) m20 h
theorem K_Ru_findWords_b44 (n : Nat) (E : zE) (S : zS) (a0 : Nat) (a1 : Nat) (x2 : Int32) (x3 : Int32) (M : zH) (M' : zH)  (h : F_Ru_findWords_b44 n E S (a0, a1, x2, x3, M) = some M') : zG E Y_Ru_findWords (none, S, M') 44 [(0, .ref a0), (1, .ref a1), (2, .int x2), (3, .int x3)] [] S M 0 0 := by
  have key : ∀ (k : Nat) (a0 : Nat) (a1 : Nat) (x2 : Int32) (x3 : Int32) (M : zH), zfix (fun r44 s => F_Ru_findWords_L44 n E S r44 s.1 s.2.1 s.2.2.1 s.2.2.2.1 s.2.2.2.2) k (a0, a1, x2, x3, M) = some M' → zG E Y_Ru_findWords (none, S, M') 44 [(0, .ref a0), (1, .ref a1), (2, .int x2), (3, .int x3)] [] S M 0 0 := by
    intro k
    induction k with
    | zero => intro a0 a1 x2 x3 M h; cases h
    | succ k ih => intro a0 a1 x2 x3 M h; exact K_Ru_findWords_L44 n E S _ a0 a1 x2 x3 M M'  (fun a0 a1 x2 x3 M h => ih a0 a1 x2 x3 M h) h
  exact key n a0 a1 x2 x3 M h
theorem K_Ru_findWords (n : Nat) (E : zE) (S : zS) (a0 : Nat) (a1 : Nat) (x2 : Int32) (M : zH) (M' : zH)  (h : F_Ru_findWords n E S a0 a1 x2 M = some M') : zG E Y_Ru_findWords (none, S, M') 0 [(0, .ref a0), (1, .ref a1), (2, .int x2)] [] S M 0 0 := by
  unfold F_Ru_findWords at h
  refine zi_aload_n 0 d_Ru_findWords_0 rfl ?_
  obtain ⟨b21, eb21, h⟩ := zbind h
  refine zo_getR 4 zkd_7 3 d_Ru_findWords_1 eb21 rfl tw_273 rfl ?_
  refine zi_iconst 0 d_Ru_findWords_4 rfl ?_
  refine zi_aload_n 1 d_Ru_findWords_5 rfl ?_
  obtain ⟨b22, eb22, h⟩ := zbind h
  refine zo_getR 9 zkd_3 9 d_Ru_findWords_6 eb22 rfl tw_82 rfl ?_
  refine zi_iconst 0 d_Ru_findWords_9 rfl ?_
  obtain ⟨v23, ev23, h⟩ := zbind h
  refine zo_iald 11 d_Ru_findWords_10 ev23 rfl ?_
  obtain ⟨m24, em24, h⟩ := zbind h
  refine zo_iast 12 d_Ru_findWords_11 em24 rfl ?_
  refine zi_aload_n 0 d_Ru_findWords_12 rfl ?_
  refine zo_getR 16 zkd_7 3 d_Ru_findWords_13 eb21 rfl tw_273 rfl ?_
  refine zi_iconst 1 d_Ru_findWords_16 rfl ?_
  refine zi_aload_n 0 d_Ru_findWords_17 rfl ?_
  obtain ⟨v25, ev25, h⟩ := zbind h
  refine zo_getI 21 zkd_7 4 d_Ru_findWords_18 ev25 rfl tw_274 rfl ?_
  obtain ⟨m26, em26, h⟩ := zbind h
  refine zo_iast 22 d_Ru_findWords_21 em26 rfl ?_
  refine zi_aload_n 0 d_Ru_findWords_22 rfl ?_
  refine zo_getR 26 zkd_7 3 d_Ru_findWords_23 eb21 rfl tw_273 rfl ?_
  refine zi_iconst 2 d_Ru_findWords_26 rfl ?_
  refine zi_aload_n 0 d_Ru_findWords_27 rfl ?_
  obtain ⟨v27, ev27, h⟩ := zbind h
  refine zo_getI 31 zkd_7 5 d_Ru_findWords_28 ev27 rfl tw_276 rfl ?_
  obtain ⟨m28, em28, h⟩ := zbind h
  refine zo_iast 32 d_Ru_findWords_31 em28 rfl ?_
  refine zi_aload_n 0 d_Ru_findWords_32 rfl ?_
  refine zo_getR 36 zkd_7 3 d_Ru_findWords_33 eb21 rfl tw_273 rfl ?_
  refine zi_iconst 3 d_Ru_findWords_36 rfl ?_
  refine zi_aload_n 1 d_Ru_findWords_37 rfl ?_
  obtain ⟨q29, eq29, h⟩ := zbind h
  refine zo_virt (k' := 0) (n' := 0) 41 [] [.int 3, .ref b21] [.int q29.1, .int 3, .ref b21] zkd_3 (zgR_s eb22).1 (C_Ni_allLevels n E S a1 m28 q29.1 q29.2 eq29) d_Ru_findWords_38 tw_886 tw_883 tw_884 tw_885 tw_2 dd_Ni_allLevels ⟨Nat.le_of_ble_eq_true rfl, Nat.le_of_ble_eq_true rfl, Nat.le_of_ble_eq_true rfl, Nat.le_of_ble_eq_true rfl⟩ (Nat.le_of_ble_eq_true rfl) rfl rfl rfl rfl ?_
  obtain ⟨m30, em30, h⟩ := zbind h
  refine zo_iast 42 d_Ru_findWords_41 em30 rfl ?_
  refine zi_iconst 0 d_Ru_findWords_42 rfl ?_
  refine zi_istore_n [(3, .int 0), (0, .ref a0), (1, .ref a1), (2, .int x2)] d_Ru_findWords_43 (by decide) rfl ?_
  refine zi_lo [(0, .ref a0), (1, .ref a1), (2, .int x2), (3, .int 0)] [1, 2, 3, 0] rfl ?_
  exact K_Ru_findWords_b44 n E S a0 a1 x2 0 m30 M'  h
theorem C_Ru_findWords (n : Nat) (E : zE) (S : zS) (a0 : Nat) (a1 : Nat) (x2 : Int32) (M : zH) (M' : zH) (h : F_Ru_findWords n E S a0 a1 x2 M = some M') : zC E Y_Ru_findWords [.ref a0, .ref a1, .int x2] S M (none, S, M') :=
  zC.of (Or.inl (show plainName "NightColander$Runner" = true by decide)) (Nat.le_of_ble_eq_true rfl) (trivial) (K_Ru_findWords n E S a0 a1 x2 M M' h)
theorem d_Ru_run_0 : decode (yB Y_Ru_run) 0 = .ok (.aload_n 0, 1) := by decide +kernel
theorem d_Ru_run_1 : decode (yB Y_Ru_run) 1 = .ok (.iconst 0, 1) := by decide +kernel
theorem d_Ru_run_2 : decode (yB Y_Ru_run) 2 = .ok (.putfield 22, 3) := by decide +kernel
theorem d_Ru_run_5 : decode (yB Y_Ru_run) 5 = .ok (.aload_n 0, 1) := by decide +kernel
theorem d_Ru_run_6 : decode (yB Y_Ru_run) 6 = .ok (.iconst (-1), 1) := by decide +kernel
theorem d_Ru_run_7 : decode (yB Y_Ru_run) 7 = .ok (.putfield 26, 3) := by decide +kernel
theorem d_Ru_run_10 : decode (yB Y_Ru_run) 10 = .ok (.iconst 0, 1) := by decide +kernel
theorem d_Ru_run_11 : decode (yB Y_Ru_run) 11 = .ok (.istore 4, 2) := by decide +kernel
theorem d_Ru_run_13 : decode (yB Y_Ru_run) 13 = .ok (.iload 4, 2) := by decide +kernel
theorem d_Ru_run_15 : decode (yB Y_Ru_run) 15 = .ok (.aload_n 3, 1) := by decide +kernel
theorem d_Ru_run_16 : decode (yB Y_Ru_run) 16 = .ok (.getfield 37, 3) := by decide +kernel
theorem d_Ru_run_19 : decode (yB Y_Ru_run) 19 = .ok (.if_icmp .ge 261, 3) := by decide +kernel
theorem d_Ru_run_22 : decode (yB Y_Ru_run) 22 = .ok (.aload_n 3, 1) := by decide +kernel
theorem d_Ru_run_23 : decode (yB Y_Ru_run) 23 = .ok (.iload 4, 2) := by decide +kernel
theorem d_Ru_run_25 : decode (yB Y_Ru_run) 25 = .ok (.iconst 0, 1) := by decide +kernel
theorem d_Ru_run_26 : decode (yB Y_Ru_run) 26 = .ok (.invokevirtual 42, 3) := by decide +kernel
theorem d_Ru_run_29 : decode (yB Y_Ru_run) 29 = .ok (.istore 5, 2) := by decide +kernel
theorem d_Ru_run_31 : decode (yB Y_Ru_run) 31 = .ok (.aload_n 3, 1) := by decide +kernel
theorem d_Ru_run_32 : decode (yB Y_Ru_run) 32 = .ok (.iload 4, 2) := by decide +kernel
theorem d_Ru_run_34 : decode (yB Y_Ru_run) 34 = .ok (.iconst 1, 1) := by decide +kernel
theorem d_Ru_run_35 : decode (yB Y_Ru_run) 35 = .ok (.invokevirtual 42, 3) := by decide +kernel
theorem d_Ru_run_38 : decode (yB Y_Ru_run) 38 = .ok (.istore 6, 2) := by decide +kernel
theorem d_Ru_run_40 : decode (yB Y_Ru_run) 40 = .ok (.aload_n 3, 1) := by decide +kernel
theorem d_Ru_run_41 : decode (yB Y_Ru_run) 41 = .ok (.iload 4, 2) := by decide +kernel
theorem d_Ru_run_43 : decode (yB Y_Ru_run) 43 = .ok (.iconst 2, 1) := by decide +kernel
theorem d_Ru_run_44 : decode (yB Y_Ru_run) 44 = .ok (.invokevirtual 42, 3) := by decide +kernel
theorem d_Ru_run_47 : decode (yB Y_Ru_run) 47 = .ok (.istore 7, 2) := by decide +kernel
theorem d_Ru_run_49 : decode (yB Y_Ru_run) 49 = .ok (.aload_n 3, 1) := by decide +kernel
theorem d_Ru_run_50 : decode (yB Y_Ru_run) 50 = .ok (.iload 4, 2) := by decide +kernel
theorem d_Ru_run_52 : decode (yB Y_Ru_run) 52 = .ok (.iconst 3, 1) := by decide +kernel
theorem d_Ru_run_53 : decode (yB Y_Ru_run) 53 = .ok (.invokevirtual 42, 3) := by decide +kernel
theorem d_Ru_run_56 : decode (yB Y_Ru_run) 56 = .ok (.istore 8, 2) := by decide +kernel
theorem d_Ru_run_58 : decode (yB Y_Ru_run) 58 = .ok (.iconst 0, 1) := by decide +kernel
theorem d_Ru_run_59 : decode (yB Y_Ru_run) 59 = .ok (.istore 9, 2) := by decide +kernel
theorem d_Ru_run_61 : decode (yB Y_Ru_run) 61 = .ok (.iload 9, 2) := by decide +kernel
theorem d_Ru_run_63 : decode (yB Y_Ru_run) 63 = .ok (.aload_n 3, 1) := by decide +kernel
theorem d_Ru_run_64 : decode (yB Y_Ru_run) 64 = .ok (.getfield 46, 3) := by decide +kernel
theorem d_Ru_run_67 : decode (yB Y_Ru_run) 67 = .ok (.iload 4, 2) := by decide +kernel
theorem d_Ru_run_69 : decode (yB Y_Ru_run) 69 = .ok (.iaload, 1) := by decide +kernel
theorem d_Ru_run_70 : decode (yB Y_Ru_run) 70 = .ok (.if_icmp .ge 204, 3) := by decide +kernel
theorem d_Ru_run_73 : decode (yB Y_Ru_run) 73 = .ok (.aload_n 0, 1) := by decide +kernel
theorem d_Ru_run_74 : decode (yB Y_Ru_run) 74 = .ok (.aload_n 1, 1) := by decide +kernel
theorem d_Ru_run_75 : decode (yB Y_Ru_run) 75 = .ok (.aload_n 3, 1) := by decide +kernel
theorem d_Ru_run_76 : decode (yB Y_Ru_run) 76 = .ok (.getfield 49, 3) := by decide +kernel
theorem d_Ru_run_79 : decode (yB Y_Ru_run) 79 = .ok (.iload 4, 2) := by decide +kernel
theorem d_Ru_run_81 : decode (yB Y_Ru_run) 81 = .ok (.iaload, 1) := by decide +kernel
theorem d_Ru_run_82 : decode (yB Y_Ru_run) 82 = .ok (.invokevirtual 50, 3) := by decide +kernel
theorem d_Ru_run_85 : decode (yB Y_Ru_run) 85 = .ok (.iload 7, 2) := by decide +kernel
theorem d_Ru_run_87 : decode (yB Y_Ru_run) 87 = .ok (.iload 8, 2) := by decide +kernel
theorem d_Ru_run_89 : decode (yB Y_Ru_run) 89 = .ok (.if_icmp .ge 26, 3) := by decide +kernel
theorem d_Ru_run_92 : decode (yB Y_Ru_run) 92 = .ok (.aload_n 0, 1) := by decide +kernel
theorem d_Ru_run_93 : decode (yB Y_Ru_run) 93 = .ok (.getfield 12, 3) := by decide +kernel
theorem d_Ru_run_96 : decode (yB Y_Ru_run) 96 = .ok (.aload_n 3, 1) := by decide +kernel
theorem d_Ru_run_97 : decode (yB Y_Ru_run) 97 = .ok (.iload 7, 2) := by decide +kernel
theorem d_Ru_run_99 : decode (yB Y_Ru_run) 99 = .ok (.iload 8, 2) := by decide +kernel
theorem d_Ru_run_101 : decode (yB Y_Ru_run) 101 = .ok (.aload_n 0, 1) := by decide +kernel
theorem d_Ru_run_102 : decode (yB Y_Ru_run) 102 = .ok (.getfield 18, 3) := by decide +kernel
theorem d_Ru_run_105 : decode (yB Y_Ru_run) 105 = .ok (.invokevirtual 54, 3) := by decide +kernel
theorem d_Ru_run_108 : decode (yB Y_Ru_run) 108 = .ok (.iconst 1, 1) := by decide +kernel
theorem d_Ru_run_109 : decode (yB Y_Ru_run) 109 = .ok (.if_icmp .eq 6, 3) := by decide +kernel
theorem d_Ru_run_112 : decode (yB Y_Ru_run) 112 = .ok (.goto 156, 3) := by decide +kernel
theorem d_Ru_run_115 : decode (yB Y_Ru_run) 115 = .ok (.aload_n 3, 1) := by decide +kernel
theorem d_Ru_run_116 : decode (yB Y_Ru_run) 116 = .ok (.getfield 58, 3) := by decide +kernel
theorem d_Ru_run_119 : decode (yB Y_Ru_run) 119 = .ok (.iload 4, 2) := by decide +kernel
theorem d_Ru_run_121 : decode (yB Y_Ru_run) 121 = .ok (.iaload, 1) := by decide +kernel
theorem d_Ru_run_122 : decode (yB Y_Ru_run) 122 = .ok (.iconst 3, 1) := by decide +kernel
theorem d_Ru_run_123 : decode (yB Y_Ru_run) 123 = .ok (.if_icmp .eq 7, 3) := by decide +kernel
theorem d_Ru_run_126 : decode (yB Y_Ru_run) 126 = .ok (.iconst 1, 1) := by decide +kernel
theorem d_Ru_run_127 : decode (yB Y_Ru_run) 127 = .ok (.goto 4, 3) := by decide +kernel
theorem d_Ru_run_130 : decode (yB Y_Ru_run) 130 = .ok (.iconst 0, 1) := by decide +kernel
theorem d_Ru_run_131 : decode (yB Y_Ru_run) 131 = .ok (.istore 10, 2) := by decide +kernel
theorem d_Ru_run_133 : decode (yB Y_Ru_run) 133 = .ok (.iload 10, 2) := by decide +kernel
theorem d_Ru_run_135 : decode (yB Y_Ru_run) 135 = .ok (.ifCond .eq 22, 3) := by decide +kernel
theorem d_Ru_run_138 : decode (yB Y_Ru_run) 138 = .ok (.aload_n 0, 1) := by decide +kernel
theorem d_Ru_run_139 : decode (yB Y_Ru_run) 139 = .ok (.getfield 12, 3) := by decide +kernel
theorem d_Ru_run_142 : decode (yB Y_Ru_run) 142 = .ok (.aload_n 3, 1) := by decide +kernel
theorem d_Ru_run_143 : decode (yB Y_Ru_run) 143 = .ok (.iload 5, 2) := by decide +kernel
theorem d_Ru_run_145 : decode (yB Y_Ru_run) 145 = .ok (.iload 6, 2) := by decide +kernel
theorem d_Ru_run_147 : decode (yB Y_Ru_run) 147 = .ok (.aload_n 0, 1) := by decide +kernel
theorem d_Ru_run_148 : decode (yB Y_Ru_run) 148 = .ok (.getfield 18, 3) := by decide +kernel
theorem d_Ru_run_151 : decode (yB Y_Ru_run) 151 = .ok (.invokevirtual 54, 3) := by decide +kernel
theorem d_Ru_run_154 : decode (yB Y_Ru_run) 154 = .ok (.goto 4, 3) := by decide +kernel
theorem d_Ru_run_157 : decode (yB Y_Ru_run) 157 = .ok (.iconst 0, 1) := by decide +kernel
theorem d_Ru_run_158 : decode (yB Y_Ru_run) 158 = .ok (.istore 11, 2) := by decide +kernel
theorem d_Ru_run_160 : decode (yB Y_Ru_run) 160 = .ok (.iload 10, 2) := by decide +kernel
theorem d_Ru_run_162 : decode (yB Y_Ru_run) 162 = .ok (.ifCond .eq 22, 3) := by decide +kernel
theorem d_Ru_run_165 : decode (yB Y_Ru_run) 165 = .ok (.aload_n 0, 1) := by decide +kernel
theorem d_Ru_run_166 : decode (yB Y_Ru_run) 166 = .ok (.getfield 12, 3) := by decide +kernel
theorem d_Ru_run_169 : decode (yB Y_Ru_run) 169 = .ok (.aload_n 3, 1) := by decide +kernel
theorem d_Ru_run_170 : decode (yB Y_Ru_run) 170 = .ok (.iload 6, 2) := by decide +kernel
theorem d_Ru_run_172 : decode (yB Y_Ru_run) 172 = .ok (.iload 7, 2) := by decide +kernel
theorem d_Ru_run_174 : decode (yB Y_Ru_run) 174 = .ok (.aload_n 0, 1) := by decide +kernel
theorem d_Ru_run_175 : decode (yB Y_Ru_run) 175 = .ok (.getfield 18, 3) := by decide +kernel
theorem d_Ru_run_178 : decode (yB Y_Ru_run) 178 = .ok (.invokevirtual 54, 3) := by decide +kernel
theorem d_Ru_run_181 : decode (yB Y_Ru_run) 181 = .ok (.goto 4, 3) := by decide +kernel
theorem d_Ru_run_184 : decode (yB Y_Ru_run) 184 = .ok (.iconst 0, 1) := by decide +kernel
theorem d_Ru_run_185 : decode (yB Y_Ru_run) 185 = .ok (.istore 12, 2) := by decide +kernel
theorem d_Ru_run_187 : decode (yB Y_Ru_run) 187 = .ok (.iload 11, 2) := by decide +kernel
theorem d_Ru_run_189 : decode (yB Y_Ru_run) 189 = .ok (.ldc 61, 2) := by decide +kernel
theorem d_Ru_run_191 : decode (yB Y_Ru_run) 191 = .ok (.if_icmp .eq 10, 3) := by decide +kernel
theorem d_Ru_run_194 : decode (yB Y_Ru_run) 194 = .ok (.iload 12, 2) := by decide +kernel
theorem d_Ru_run_196 : decode (yB Y_Ru_run) 196 = .ok (.ldc 61, 2) := by decide +kernel
theorem d_Ru_run_198 : decode (yB Y_Ru_run) 198 = .ok (.if_icmp .ne 6, 3) := by decide +kernel
theorem d_Ru_run_201 : decode (yB Y_Ru_run) 201 = .ok (.iload 4, 2) := by decide +kernel
theorem d_Ru_run_203 : decode (yB Y_Ru_run) 203 = .ok (.ireturn, 1) := by decide +kernel
theorem d_Ru_run_204 : decode (yB Y_Ru_run) 204 = .ok (.aload_n 0, 1) := by decide +kernel
theorem d_Ru_run_205 : decode (yB Y_Ru_run) 205 = .ok (.getfield 33, 3) := by decide +kernel
theorem d_Ru_run_208 : decode (yB Y_Ru_run) 208 = .ok (.aload_n 1, 1) := by decide +kernel
theorem d_Ru_run_209 : decode (yB Y_Ru_run) 209 = .ok (.aload_n 2, 1) := by decide +kernel
theorem d_Ru_run_210 : decode (yB Y_Ru_run) 210 = .ok (.aload_n 3, 1) := by decide +kernel
theorem d_Ru_run_211 : decode (yB Y_Ru_run) 211 = .ok (.getfield 58, 3) := by decide +kernel
theorem d_Ru_run_214 : decode (yB Y_Ru_run) 214 = .ok (.iload 4, 2) := by decide +kernel
theorem d_Ru_run_216 : decode (yB Y_Ru_run) 216 = .ok (.iaload, 1) := by decide +kernel
theorem d_Ru_run_217 : decode (yB Y_Ru_run) 217 = .ok (.iload 11, 2) := by decide +kernel
theorem d_Ru_run_219 : decode (yB Y_Ru_run) 219 = .ok (.iload 12, 2) := by decide +kernel
theorem d_Ru_run_221 : decode (yB Y_Ru_run) 221 = .ok (.invokevirtual 62, 3) := by decide +kernel
theorem d_Ru_run_224 : decode (yB Y_Ru_run) 224 = .ok (.istore 13, 2) := by decide +kernel
theorem d_Ru_run_226 : decode (yB Y_Ru_run) 226 = .ok (.iload 13, 2) := by decide +kernel
theorem d_Ru_run_228 : decode (yB Y_Ru_run) 228 = .ok (.ifCond .ge 6, 3) := by decide +kernel
theorem d_Ru_run_231 : decode (yB Y_Ru_run) 231 = .ok (.iload 4, 2) := by decide +kernel
theorem d_Ru_run_233 : decode (yB Y_Ru_run) 233 = .ok (.ireturn, 1) := by decide +kernel
theorem d_Ru_run_234 : decode (yB Y_Ru_run) 234 = .ok (.aload_n 0, 1) := by decide +kernel
theorem d_Ru_run_235 : decode (yB Y_Ru_run) 235 = .ok (.dup, 1) := by decide +kernel
theorem d_Ru_run_236 : decode (yB Y_Ru_run) 236 = .ok (.getfield 22, 3) := by decide +kernel
theorem d_Ru_run_239 : decode (yB Y_Ru_run) 239 = .ok (.iconst 1, 1) := by decide +kernel
theorem d_Ru_run_240 : decode (yB Y_Ru_run) 240 = .ok (.iadd, 1) := by decide +kernel
theorem d_Ru_run_241 : decode (yB Y_Ru_run) 241 = .ok (.putfield 22, 3) := by decide +kernel
theorem d_Ru_run_244 : decode (yB Y_Ru_run) 244 = .ok (.aload_n 0, 1) := by decide +kernel
theorem d_Ru_run_245 : decode (yB Y_Ru_run) 245 = .ok (.aload_n 3, 1) := by decide +kernel
theorem d_Ru_run_246 : decode (yB Y_Ru_run) 246 = .ok (.getfield 58, 3) := by decide +kernel
theorem d_Ru_run_249 : decode (yB Y_Ru_run) 249 = .ok (.iload 4, 2) := by decide +kernel
theorem d_Ru_run_251 : decode (yB Y_Ru_run) 251 = .ok (.iaload, 1) := by decide +kernel
theorem d_Ru_run_252 : decode (yB Y_Ru_run) 252 = .ok (.iconst 3, 1) := by decide +kernel
theorem d_Ru_run_253 : decode (yB Y_Ru_run) 253 = .ok (.if_icmp .ne 8, 3) := by decide +kernel
theorem d_Ru_run_256 : decode (yB Y_Ru_run) 256 = .ok (.iload 13, 2) := by decide +kernel
theorem d_Ru_run_258 : decode (yB Y_Ru_run) 258 = .ok (.goto 7, 3) := by decide +kernel
theorem d_Ru_run_261 : decode (yB Y_Ru_run) 261 = .ok (.aload_n 0, 1) := by decide +kernel
theorem d_Ru_run_262 : decode (yB Y_Ru_run) 262 = .ok (.getfield 26, 3) := by decide +kernel
theorem d_Ru_run_265 : decode (yB Y_Ru_run) 265 = .ok (.putfield 26, 3) := by decide +kernel
theorem d_Ru_run_268 : decode (yB Y_Ru_run) 268 = .ok (.iinc 9 1, 3) := by decide +kernel
theorem d_Ru_run_271 : decode (yB Y_Ru_run) 271 = .ok (.goto (-210), 3) := by decide +kernel
theorem d_Ru_run_274 : decode (yB Y_Ru_run) 274 = .ok (.iinc 4 1, 3) := by decide +kernel
theorem d_Ru_run_277 : decode (yB Y_Ru_run) 277 = .ok (.goto (-264), 3) := by decide +kernel
theorem d_Ru_run_280 : decode (yB Y_Ru_run) 280 = .ok (.iconst (-1), 1) := by decide +kernel
theorem d_Ru_run_281 : decode (yB Y_Ru_run) 281 = .ok (.ireturn, 1) := by decide +kernel
def F_Ru_run_b268 (n : Nat) (E : zE) (S : zS) (r13 : Nat × Nat × Nat × Nat × Int32 × zH → Option (Int32 × zH)) (r61 : Nat × Nat × Nat × Nat × Int32 × Int32 × Int32 × Int32 × Int32 × Int32 × zH → Option (Int32 × zH)) (a0 : Nat) (a1 : Nat) (a2 : Nat) (a3 : Nat) (x4 : Int32) (x5 : Int32) (x6 : Int32) (x7 : Int32) (x8 : Int32) (x9 : Int32) (M : zH) : Option (Int32 × zH) :=
  r61 (a0, a1, a2, a3, x4, x5, x6, x7, x8, x9 + 1, M)
def F_Ru_run_b265 (n : Nat) (E : zE) (S : zS) (r13 : Nat × Nat × Nat × Nat × Int32 × zH → Option (Int32 × zH)) (r61 : Nat × Nat × Nat × Nat × Int32 × Int32 × Int32 × Int32 × Int32 × Int32 × zH → Option (Int32 × zH)) (a0 : Nat) (a1 : Nat) (a2 : Nat) (a3 : Nat) (x4 : Int32) (x5 : Int32) (x6 : Int32) (x7 : Int32) (x8 : Int32) (x9 : Int32) (s0 : Int32) (u1 : Nat) (M : zH) : Option (Int32 × zH) :=
  (zpI S M u1 7 5 s0).bind fun m1 =>
  F_Ru_run_b268 n E S r13 r61 a0 a1 a2 a3 x4 x5 x6 x7 x8 x9 m1
def F_Ru_run_b185 (n : Nat) (E : zE) (S : zS) (r13 : Nat × Nat × Nat × Nat × Int32 × zH → Option (Int32 × zH)) (r61 : Nat × Nat × Nat × Nat × Int32 × Int32 × Int32 × Int32 × Int32 × Int32 × zH → Option (Int32 × zH)) (a0 : Nat) (a1 : Nat) (a2 : Nat) (a3 : Nat) (x4 : Int32) (x5 : Int32) (x6 : Int32) (x7 : Int32) (x8 : Int32) (x9 : Int32) (x11 : Int32) (s0 : Int32) (M : zH) : Option (Int32 × zH) :=
  if x11 = (-2147483648) then
    some (x4, M)
  else
    if s0 = (-2147483648) then
      some (x4, M)
    else
      (zgR S a0 7 1).bind fun b4 =>
      (zgR S a3 9 1).bind fun b5 =>
      (zldI S M b5 x4).bind fun v6 =>
      (zck S b4 0).bind fun u7 =>
      (F_De_perform n E S b4 a1 a2 v6 x11 s0 M).bind fun q8 =>
      if 0 ≤ q8.1 then
        (zgI S q8.2 a0 7 4).bind fun v10 =>
        (zpI S q8.2 a0 7 4 (v10 + 1)).bind fun m11 =>
        (zldI S m11 b5 x4).bind fun v12 =>
        if v12 = 3 then
          F_Ru_run_b265 n E S r13 r61 a0 a1 a2 a3 x4 x5 x6 x7 x8 x9 q8.1 a0 m11
        else
          (zgI S m11 a0 7 5).bind fun v14 =>
          F_Ru_run_b265 n E S r13 r61 a0 a1 a2 a3 x4 x5 x6 x7 x8 x9 v14 a0 m11
      else
        some (x4, q8.2)
def F_Ru_run_b158 (n : Nat) (E : zE) (S : zS) (r13 : Nat × Nat × Nat × Nat × Int32 × zH → Option (Int32 × zH)) (r61 : Nat × Nat × Nat × Nat × Int32 × Int32 × Int32 × Int32 × Int32 × Int32 × zH → Option (Int32 × zH)) (a0 : Nat) (a1 : Nat) (a2 : Nat) (a3 : Nat) (x4 : Int32) (x5 : Int32) (x6 : Int32) (x7 : Int32) (x8 : Int32) (x9 : Int32) (x10 : Int32) (s0 : Int32) (M : zH) : Option (Int32 × zH) :=
  if x10 = 0 then
    F_Ru_run_b185 n E S r13 r61 a0 a1 a2 a3 x4 x5 x6 x7 x8 x9 s0 0 M
  else
    (zgR S a0 7 2).bind fun b16 =>
    (zgR S a0 7 3).bind fun b17 =>
    (zck S b16 2).bind fun u18 =>
    (F_Mc_work n E S b16 a3 x6 x7 b17 M).bind fun q19 =>
    F_Ru_run_b185 n E S r13 r61 a0 a1 a2 a3 x4 x5 x6 x7 x8 x9 s0 q19.1 q19.2
def F_Ru_run_b131 (n : Nat) (E : zE) (S : zS) (r13 : Nat × Nat × Nat × Nat × Int32 × zH → Option (Int32 × zH)) (r61 : Nat × Nat × Nat × Nat × Int32 × Int32 × Int32 × Int32 × Int32 × Int32 × zH → Option (Int32 × zH)) (a0 : Nat) (a1 : Nat) (a2 : Nat) (a3 : Nat) (x4 : Int32) (x5 : Int32) (x6 : Int32) (x7 : Int32) (x8 : Int32) (x9 : Int32) (s0 : Int32) (M : zH) : Option (Int32 × zH) :=
  if s0 = 0 then
    F_Ru_run_b158 n E S r13 r61 a0 a1 a2 a3 x4 x5 x6 x7 x8 x9 s0 0 M
  else
    (zgR S a0 7 2).bind fun b21 =>
    (zgR S a0 7 3).bind fun b22 =>
    (zck S b21 2).bind fun u23 =>
    (F_Mc_work n E S b21 a3 x5 x6 b22 M).bind fun q24 =>
    F_Ru_run_b158 n E S r13 r61 a0 a1 a2 a3 x4 x5 x6 x7 x8 x9 s0 q24.1 q24.2
def F_Ru_run_b115 (n : Nat) (E : zE) (S : zS) (r13 : Nat × Nat × Nat × Nat × Int32 × zH → Option (Int32 × zH)) (r61 : Nat × Nat × Nat × Nat × Int32 × Int32 × Int32 × Int32 × Int32 × Int32 × zH → Option (Int32 × zH)) (a0 : Nat) (a1 : Nat) (a2 : Nat) (a3 : Nat) (x4 : Int32) (x5 : Int32) (x6 : Int32) (x7 : Int32) (x8 : Int32) (x9 : Int32) (M : zH) : Option (Int32 × zH) :=
  (zgR S a3 9 1).bind fun b25 =>
  (zldI S M b25 x4).bind fun v26 =>
  if v26 = 3 then
    F_Ru_run_b131 n E S r13 r61 a0 a1 a2 a3 x4 x5 x6 x7 x8 x9 0 M
  else
    F_Ru_run_b131 n E S r13 r61 a0 a1 a2 a3 x4 x5 x6 x7 x8 x9 1 M
def F_Ru_run_L61 (n : Nat) (E : zE) (S : zS) (r13 : Nat × Nat × Nat × Nat × Int32 × zH → Option (Int32 × zH)) (r61 : Nat × Nat × Nat × Nat × Int32 × Int32 × Int32 × Int32 × Int32 × Int32 × zH → Option (Int32 × zH)) (a0 : Nat) (a1 : Nat) (a2 : Nat) (a3 : Nat) (x4 : Int32) (x5 : Int32) (x6 : Int32) (x7 : Int32) (x8 : Int32) (x9 : Int32) (M : zH) : Option (Int32 × zH) :=
  (zgR S a3 9 2).bind fun b28 =>
  (zldI S M b28 x4).bind fun v29 =>
  if v29 ≤ x9 then
    r13 (a0, a1, a2, a3, x4 + 1, M)
  else
    (zgR S a3 9 3).bind fun b31 =>
    (zldI S M b31 x4).bind fun v32 =>
    (zck S a0 7).bind fun u33 =>
    (F_Ru_findWords n E S a0 a1 v32 M).bind fun q34 =>
    if x8 ≤ x7 then
      F_Ru_run_b115 n E S r13 r61 a0 a1 a2 a3 x4 x5 x6 x7 x8 x9 q34
    else
      (zgR S a0 7 2).bind fun b36 =>
      (zgR S a0 7 3).bind fun b37 =>
      (zck S b36 2).bind fun u38 =>
      (F_Mc_work n E S b36 a3 x7 x8 b37 q34).bind fun q39 =>
      if q39.1 = 1 then
        F_Ru_run_b115 n E S r13 r61 a0 a1 a2 a3 x4 x5 x6 x7 x8 x9 q39.2
      else
        F_Ru_run_b268 n E S r13 r61 a0 a1 a2 a3 x4 x5 x6 x7 x8 x9 q39.2
def F_Ru_run_b61 (n : Nat) (E : zE) (S : zS) (r13 : Nat × Nat × Nat × Nat × Int32 × zH → Option (Int32 × zH)) : Nat × Nat × Nat × Nat × Int32 × Int32 × Int32 × Int32 × Int32 × Int32 × zH → Option (Int32 × zH) := zfix (fun r61 s => F_Ru_run_L61 n E S r13 r61 s.1 s.2.1 s.2.2.1 s.2.2.2.1 s.2.2.2.2.1 s.2.2.2.2.2.1 s.2.2.2.2.2.2.1 s.2.2.2.2.2.2.2.1 s.2.2.2.2.2.2.2.2.1 s.2.2.2.2.2.2.2.2.2.1 s.2.2.2.2.2.2.2.2.2.2) n
def F_Ru_run_L13 (n : Nat) (E : zE) (S : zS) (r13 : Nat × Nat × Nat × Nat × Int32 × zH → Option (Int32 × zH)) (a0 : Nat) (a1 : Nat) (a2 : Nat) (a3 : Nat) (x4 : Int32) (M : zH) : Option (Int32 × zH) :=
  (zgI S M a3 9 6).bind fun v41 =>
  if v41 ≤ x4 then
    some ((-1), M)
  else
    (F_Te_markOf n E S a3 x4 0 M).bind fun q43 =>
    (F_Te_markOf n E S a3 x4 1 q43.2).bind fun q44 =>
    (F_Te_markOf n E S a3 x4 2 q44.2).bind fun q45 =>
    (F_Te_markOf n E S a3 x4 3 q45.2).bind fun q46 =>
    F_Ru_run_b61 n E S r13 (a0, a1, a2, a3, x4, q43.1, q44.1, q45.1, q46.1, 0, q46.2)
def F_Ru_run_b13 (n : Nat) (E : zE) (S : zS) : Nat × Nat × Nat × Nat × Int32 × zH → Option (Int32 × zH) := zfix (fun r13 s => F_Ru_run_L13 n E S r13 s.1 s.2.1 s.2.2.1 s.2.2.2.1 s.2.2.2.2.1 s.2.2.2.2.2) n
def F_Ru_run (n : Nat) (E : zE) (S : zS) (a0 : Nat) (a1 : Nat) (a2 : Nat) (a3 : Nat) (M : zH) : Option (Int32 × zH) :=
  (zpI S M a0 7 4 0).bind fun m47 =>
  (zpI S m47 a0 7 5 (-1)).bind fun m48 =>
  F_Ru_run_b13 n E S (a0, a1, a2, a3, 0, m48)
theorem K_Ru_run_b268 (n : Nat) (E : zE) (S : zS) (r13 : Nat × Nat × Nat × Nat × Int32 × zH → Option (Int32 × zH)) (r61 : Nat × Nat × Nat × Nat × Int32 × Int32 × Int32 × Int32 × Int32 × Int32 × zH → Option (Int32 × zH)) (a0 : Nat) (a1 : Nat) (a2 : Nat) (a3 : Nat) (x4 : Int32) (x5 : Int32) (x6 : Int32) (x7 : Int32) (x8 : Int32) (x9 : Int32) (M : zH) (r : Int32) (M' : zH) (hr13 : ∀ (a0 : Nat) (a1 : Nat) (a2 : Nat) (a3 : Nat) (x4 : Int32) (M : zH), r13 (a0, a1, a2, a3, x4, M) = some (r, M') → zG E Y_Ru_run (some (.int r), S, M') 13 [(0, .ref a0), (1, .ref a1), (2, .ref a2), (3, .ref a3), (4, .int x4)] [] S M 0 0) (hr61 : ∀ (a0 : Nat) (a1 : Nat) (a2 : Nat) (a3 : Nat) (x4 : Int32) (x5 : Int32) (x6 : Int32) (x7 : Int32) (x8 : Int32) (x9 : Int32) (M : zH), r61 (a0, a1, a2, a3, x4, x5, x6, x7, x8, x9, M) = some (r, M') → zG E Y_Ru_run (some (.int r), S, M') 61 [(0, .ref a0), (1, .ref a1), (2, .ref a2), (3, .ref a3), (4, .int x4), (5, .int x5), (6, .int x6), (7, .int x7), (8, .int x8), (9, .int x9)] [] S M 0 0) (h : F_Ru_run_b268 n E S r13 r61 a0 a1 a2 a3 x4 x5 x6 x7 x8 x9 M = some (r, M')) : zG E Y_Ru_run (some (.int r), S, M') 268 [(0, .ref a0), (1, .ref a1), (2, .ref a2), (3, .ref a3), (4, .int x4), (5, .int x5), (6, .int x6), (7, .int x7), (8, .int x8), (9, .int x9)] [] S M 0 0 := by
  unfold F_Ru_run_b268 at h
  refine zi_iinc 9 (x9 + 1) [(9, .int (x9 + 1)), (0, .ref a0), (1, .ref a1), (2, .ref a2), (3, .ref a3), (4, .int x4), (5, .int x5), (6, .int x6), (7, .int x7), (8, .int x8)] d_Ru_run_268 rfl rfl (by decide) rfl ?_
  refine zi_goto (tgt := 61) d_Ru_run_271 rfl ?_
  refine zi_lo [(0, .ref a0), (1, .ref a1), (2, .ref a2), (3, .ref a3), (4, .int x4), (5, .int x5), (6, .int x6), (7, .int x7), (8, .int x8), (9, .int (x9 + 1))] [1, 2, 3, 4, 5, 6, 7, 8, 9, 0] rfl ?_
  exact hr61 a0 a1 a2 a3 x4 x5 x6 x7 x8 (x9 + 1) M h
theorem K_Ru_run_b265 (n : Nat) (E : zE) (S : zS) (r13 : Nat × Nat × Nat × Nat × Int32 × zH → Option (Int32 × zH)) (r61 : Nat × Nat × Nat × Nat × Int32 × Int32 × Int32 × Int32 × Int32 × Int32 × zH → Option (Int32 × zH)) (a0 : Nat) (a1 : Nat) (a2 : Nat) (a3 : Nat) (x4 : Int32) (x5 : Int32) (x6 : Int32) (x7 : Int32) (x8 : Int32) (x9 : Int32) (s0 : Int32) (u1 : Nat) (M : zH) (r : Int32) (M' : zH) (hr13 : ∀ (a0 : Nat) (a1 : Nat) (a2 : Nat) (a3 : Nat) (x4 : Int32) (M : zH), r13 (a0, a1, a2, a3, x4, M) = some (r, M') → zG E Y_Ru_run (some (.int r), S, M') 13 [(0, .ref a0), (1, .ref a1), (2, .ref a2), (3, .ref a3), (4, .int x4)] [] S M 0 0) (hr61 : ∀ (a0 : Nat) (a1 : Nat) (a2 : Nat) (a3 : Nat) (x4 : Int32) (x5 : Int32) (x6 : Int32) (x7 : Int32) (x8 : Int32) (x9 : Int32) (M : zH), r61 (a0, a1, a2, a3, x4, x5, x6, x7, x8, x9, M) = some (r, M') → zG E Y_Ru_run (some (.int r), S, M') 61 [(0, .ref a0), (1, .ref a1), (2, .ref a2), (3, .ref a3), (4, .int x4), (5, .int x5), (6, .int x6), (7, .int x7), (8, .int x8), (9, .int x9)] [] S M 0 0) (h : F_Ru_run_b265 n E S r13 r61 a0 a1 a2 a3 x4 x5 x6 x7 x8 x9 s0 u1 M = some (r, M')) : zG E Y_Ru_run (some (.int r), S, M') 265 [(0, .ref a0), (1, .ref a1), (2, .ref a2), (3, .ref a3), (4, .int x4), (5, .int x5), (6, .int x6), (7, .int x7), (8, .int x8), (9, .int x9)] [.int s0, .ref u1] S M 0 0 := by
  unfold F_Ru_run_b265 at h
  obtain ⟨m1, em1, h⟩ := zbind h
  refine zo_putI 268 zkd_7 5 d_Ru_run_265 em1 rfl rfl rfl tw_276 rfl ?_
  refine zi_lo [(0, .ref a0), (1, .ref a1), (2, .ref a2), (3, .ref a3), (4, .int x4), (5, .int x5), (6, .int x6), (7, .int x7), (8, .int x8), (9, .int x9)] [0, 1, 2, 3, 4, 5, 6, 7, 8, 9] rfl ?_
  exact K_Ru_run_b268 n E S r13 r61 a0 a1 a2 a3 x4 x5 x6 x7 x8 x9 m1 r M' hr13 hr61 h
theorem K_Ru_run_b185 (n : Nat) (E : zE) (S : zS) (r13 : Nat × Nat × Nat × Nat × Int32 × zH → Option (Int32 × zH)) (r61 : Nat × Nat × Nat × Nat × Int32 × Int32 × Int32 × Int32 × Int32 × Int32 × zH → Option (Int32 × zH)) (a0 : Nat) (a1 : Nat) (a2 : Nat) (a3 : Nat) (x4 : Int32) (x5 : Int32) (x6 : Int32) (x7 : Int32) (x8 : Int32) (x9 : Int32) (x11 : Int32) (s0 : Int32) (M : zH) (r : Int32) (M' : zH) (hr13 : ∀ (a0 : Nat) (a1 : Nat) (a2 : Nat) (a3 : Nat) (x4 : Int32) (M : zH), r13 (a0, a1, a2, a3, x4, M) = some (r, M') → zG E Y_Ru_run (some (.int r), S, M') 13 [(0, .ref a0), (1, .ref a1), (2, .ref a2), (3, .ref a3), (4, .int x4)] [] S M 0 0) (hr61 : ∀ (a0 : Nat) (a1 : Nat) (a2 : Nat) (a3 : Nat) (x4 : Int32) (x5 : Int32) (x6 : Int32) (x7 : Int32) (x8 : Int32) (x9 : Int32) (M : zH), r61 (a0, a1, a2, a3, x4, x5, x6, x7, x8, x9, M) = some (r, M') → zG E Y_Ru_run (some (.int r), S, M') 61 [(0, .ref a0), (1, .ref a1), (2, .ref a2), (3, .ref a3), (4, .int x4), (5, .int x5), (6, .int x6), (7, .int x7), (8, .int x8), (9, .int x9)] [] S M 0 0) (h : F_Ru_run_b185 n E S r13 r61 a0 a1 a2 a3 x4 x5 x6 x7 x8 x9 x11 s0 M = some (r, M')) : zG E Y_Ru_run (some (.int r), S, M') 185 [(0, .ref a0), (1, .ref a1), (2, .ref a2), (3, .ref a3), (4, .int x4), (5, .int x5), (6, .int x6), (7, .int x7), (8, .int x8), (9, .int x9), (11, .int x11)] [.int s0] S M 0 0 := by
  unfold F_Ru_run_b185 at h
  refine zi_istore [(12, .int s0), (0, .ref a0), (1, .ref a1), (2, .ref a2), (3, .ref a3), (4, .int x4), (5, .int x5), (6, .int x6), (7, .int x7), (8, .int x8), (9, .int x9), (11, .int x11)] d_Ru_run_185 (by decide) rfl ?_
  refine zi_iload 11 d_Ru_run_187 rfl ?_
  refine zi_ldc d_Ru_run_189 tw_890 ?_
  refine zi_icmp_eq (tgt := 201) d_Ru_run_191 rfl (fun c2 => ?_) (fun c2 => ?_)
  · rw [if_pos c2] at h
    refine zi_iload 5 d_Ru_run_201 rfl ?_
    cases h
    exact zo_ret d_Ru_run_203 (Nat.le_of_ble_eq_true rfl) (Nat.le_of_ble_eq_true rfl) rfl
  · rw [if_neg c2] at h
    refine zi_iload 0 d_Ru_run_194 rfl ?_
    refine zi_ldc d_Ru_run_196 tw_890 ?_
    refine zi_icmp_ne (tgt := 204) d_Ru_run_198 rfl (fun c3 => ?_) (fun c3 => ?_)
    · rw [if_neg c3] at h
      refine zi_aload_n 1 d_Ru_run_204 rfl ?_
      obtain ⟨b4, eb4, h⟩ := zbind h
      refine zo_getR 208 zkd_7 1 d_Ru_run_205 eb4 rfl tw_271 rfl ?_
      refine zi_aload_n 2 d_Ru_run_208 rfl ?_
      refine zi_aload_n 3 d_Ru_run_209 rfl ?_
      refine zi_aload_n 4 d_Ru_run_210 rfl ?_
      obtain ⟨b5, eb5, h⟩ := zbind h
      refine zo_getR 214 zkd_9 1 d_Ru_run_211 eb5 rfl tw_188 rfl ?_
      refine zi_iload 5 d_Ru_run_214 rfl ?_
      obtain ⟨v6, ev6, h⟩ := zbind h
      refine zo_iald 217 d_Ru_run_216 ev6 rfl ?_
      refine zi_iload 11 d_Ru_run_217 rfl ?_
      refine zi_iload 0 d_Ru_run_219 rfl ?_
      obtain ⟨u7, eu7, h⟩ := zbind h
      obtain ⟨q8, eq8, h⟩ := zbind h
      refine zo_virt (k' := 0) (n' := 0) 224 [.ref a1, .ref a2, .int v6, .int x11, .int s0] [] [.int q8.1] zkd_0 (zck_s eu7) (C_De_perform n E S b4 a1 a2 v6 x11 s0 M q8.1 q8.2 eq8) d_Ru_run_221 tw_894 tw_891 tw_892 tw_893 tw_10 dd_De_perform ⟨Nat.le_of_ble_eq_true rfl, Nat.le_of_ble_eq_true rfl, Nat.le_of_ble_eq_true rfl, Nat.le_of_ble_eq_true rfl⟩ (Nat.le_of_ble_eq_true rfl) rfl rfl rfl rfl ?_
      refine zi_istore [(13, .int q8.1), (12, .int s0), (0, .ref a0), (1, .ref a1), (2, .ref a2), (3, .ref a3), (4, .int x4), (5, .int x5), (6, .int x6), (7, .int x7), (8, .int x8), (9, .int x9), (11, .int x11)] d_Ru_run_224 (by decide) rfl ?_
      refine zi_iload 0 d_Ru_run_226 rfl ?_
      refine zi_if_ge (tgt := 234) d_Ru_run_228 rfl (fun c9 => ?_) (fun c9 => ?_)
      · rw [if_pos c9] at h
        refine zi_aload_n 2 d_Ru_run_234 rfl ?_
        refine zi_dup d_Ru_run_235 rfl ?_
        obtain ⟨v10, ev10, h⟩ := zbind h
        refine zo_getI 239 zkd_7 4 d_Ru_run_236 ev10 rfl tw_274 rfl ?_
        refine zi_iconst 1 d_Ru_run_239 rfl ?_
        refine zi_iadd d_Ru_run_240 ?_
        obtain ⟨m11, em11, h⟩ := zbind h
        refine zo_putI 244 zkd_7 4 d_Ru_run_241 em11 rfl rfl rfl tw_274 rfl ?_
        refine zi_aload_n 2 d_Ru_run_244 rfl ?_
        refine zi_aload_n 5 d_Ru_run_245 rfl ?_
        refine zo_getR 249 zkd_9 1 d_Ru_run_246 eb5 rfl tw_188 rfl ?_
        refine zi_iload 6 d_Ru_run_249 rfl ?_
        obtain ⟨v12, ev12, h⟩ := zbind h
        refine zo_iald 252 d_Ru_run_251 ev12 rfl ?_
        refine zi_iconst 3 d_Ru_run_252 rfl ?_
        refine zi_icmp_ne (tgt := 261) d_Ru_run_253 rfl (fun c13 => ?_) (fun c13 => ?_)
        · rw [if_neg c13] at h
          refine zi_aload_n 2 d_Ru_run_261 rfl ?_
          obtain ⟨v14, ev14, h⟩ := zbind h
          refine zo_getI 265 zkd_7 5 d_Ru_run_262 ev14 rfl tw_276 rfl ?_
          refine zi_lo [(0, .ref a0), (1, .ref a1), (2, .ref a2), (3, .ref a3), (4, .int x4), (5, .int x5), (6, .int x6), (7, .int x7), (8, .int x8), (9, .int x9)] [2, 3, 4, 5, 6, 7, 8, 9, 10, 11] rfl ?_
          exact K_Ru_run_b265 n E S r13 r61 a0 a1 a2 a3 x4 x5 x6 x7 x8 x9 v14 a0 m11 r M' hr13 hr61 h
        · rw [if_pos c13] at h
          refine zi_iload 0 d_Ru_run_256 rfl ?_
          refine zi_goto (tgt := 265) d_Ru_run_258 rfl ?_
          refine zi_lo [(0, .ref a0), (1, .ref a1), (2, .ref a2), (3, .ref a3), (4, .int x4), (5, .int x5), (6, .int x6), (7, .int x7), (8, .int x8), (9, .int x9)] [2, 3, 4, 5, 6, 7, 8, 9, 10, 11] rfl ?_
          exact K_Ru_run_b265 n E S r13 r61 a0 a1 a2 a3 x4 x5 x6 x7 x8 x9 q8.1 a0 m11 r M' hr13 hr61 h
      · rw [if_neg c9] at h
        refine zi_iload 6 d_Ru_run_231 rfl ?_
        cases h
        exact zo_ret d_Ru_run_233 (Nat.le_of_ble_eq_true rfl) (Nat.le_of_ble_eq_true rfl) rfl
    · rw [if_pos c3] at h
      refine zi_iload 5 d_Ru_run_201 rfl ?_
      cases h
      exact zo_ret d_Ru_run_203 (Nat.le_of_ble_eq_true rfl) (Nat.le_of_ble_eq_true rfl) rfl
theorem K_Ru_run_b158 (n : Nat) (E : zE) (S : zS) (r13 : Nat × Nat × Nat × Nat × Int32 × zH → Option (Int32 × zH)) (r61 : Nat × Nat × Nat × Nat × Int32 × Int32 × Int32 × Int32 × Int32 × Int32 × zH → Option (Int32 × zH)) (a0 : Nat) (a1 : Nat) (a2 : Nat) (a3 : Nat) (x4 : Int32) (x5 : Int32) (x6 : Int32) (x7 : Int32) (x8 : Int32) (x9 : Int32) (x10 : Int32) (s0 : Int32) (M : zH) (r : Int32) (M' : zH) (hr13 : ∀ (a0 : Nat) (a1 : Nat) (a2 : Nat) (a3 : Nat) (x4 : Int32) (M : zH), r13 (a0, a1, a2, a3, x4, M) = some (r, M') → zG E Y_Ru_run (some (.int r), S, M') 13 [(0, .ref a0), (1, .ref a1), (2, .ref a2), (3, .ref a3), (4, .int x4)] [] S M 0 0) (hr61 : ∀ (a0 : Nat) (a1 : Nat) (a2 : Nat) (a3 : Nat) (x4 : Int32) (x5 : Int32) (x6 : Int32) (x7 : Int32) (x8 : Int32) (x9 : Int32) (M : zH), r61 (a0, a1, a2, a3, x4, x5, x6, x7, x8, x9, M) = some (r, M') → zG E Y_Ru_run (some (.int r), S, M') 61 [(0, .ref a0), (1, .ref a1), (2, .ref a2), (3, .ref a3), (4, .int x4), (5, .int x5), (6, .int x6), (7, .int x7), (8, .int x8), (9, .int x9)] [] S M 0 0) (h : F_Ru_run_b158 n E S r13 r61 a0 a1 a2 a3 x4 x5 x6 x7 x8 x9 x10 s0 M = some (r, M')) : zG E Y_Ru_run (some (.int r), S, M') 158 [(0, .ref a0), (1, .ref a1), (2, .ref a2), (3, .ref a3), (4, .int x4), (5, .int x5), (6, .int x6), (7, .int x7), (8, .int x8), (9, .int x9), (10, .int x10)] [.int s0] S M 0 0 := by
  unfold F_Ru_run_b158 at h
  refine zi_istore [(11, .int s0), (0, .ref a0), (1, .ref a1), (2, .ref a2), (3, .ref a3), (4, .int x4), (5, .int x5), (6, .int x6), (7, .int x7), (8, .int x8), (9, .int x9), (10, .int x10)] d_Ru_run_158 (by decide) rfl ?_
  refine zi_iload 11 d_Ru_run_160 rfl ?_
  refine zi_if_eq (tgt := 184) d_Ru_run_162 rfl (fun c15 => ?_) (fun c15 => ?_)
  · rw [if_pos c15] at h
    refine zi_iconst 0 d_Ru_run_184 rfl ?_
    refine zi_lo [(0, .ref a0), (1, .ref a1), (2, .ref a2), (3, .ref a3), (4, .int x4), (5, .int x5), (6, .int x6), (7, .int x7), (8, .int x8), (9, .int x9), (11, .int s0)] [1, 2, 3, 4, 5, 6, 7, 8, 9, 10, 0] rfl ?_
    exact K_Ru_run_b185 n E S r13 r61 a0 a1 a2 a3 x4 x5 x6 x7 x8 x9 s0 0 M r M' hr13 hr61 h
  · rw [if_neg c15] at h
    refine zi_aload_n 1 d_Ru_run_165 rfl ?_
    obtain ⟨b16, eb16, h⟩ := zbind h
    refine zo_getR 169 zkd_7 2 d_Ru_run_166 eb16 rfl tw_272 rfl ?_
    refine zi_aload_n 4 d_Ru_run_169 rfl ?_
    refine zi_iload 7 d_Ru_run_170 rfl ?_
    refine zi_iload 8 d_Ru_run_172 rfl ?_
    refine zi_aload_n 1 d_Ru_run_174 rfl ?_
    obtain ⟨b17, eb17, h⟩ := zbind h
    refine zo_getR 178 zkd_7 3 d_Ru_run_175 eb17 rfl tw_273 rfl ?_
    obtain ⟨u18, eu18, h⟩ := zbind h
    obtain ⟨q19, eq19, h⟩ := zbind h
    refine zo_virt (k' := 0) (n' := 0) 181 [.ref a3, .int x6, .int x7, .ref b17] [] [.int q19.1] zkd_2 (zck_s eu18) (C_Mc_work n E S b16 a3 x6 x7 b17 M q19.1 q19.2 eq19) d_Ru_run_178 tw_430 tw_889 tw_428 tw_429 tw_9 dd_Mc_work ⟨Nat.le_of_ble_eq_true rfl, Nat.le_of_ble_eq_true rfl, Nat.le_of_ble_eq_true rfl, Nat.le_of_ble_eq_true rfl⟩ (Nat.le_of_ble_eq_true rfl) rfl rfl rfl rfl ?_
    refine zi_goto (tgt := 185) d_Ru_run_181 rfl ?_
    refine zi_lo [(0, .ref a0), (1, .ref a1), (2, .ref a2), (3, .ref a3), (4, .int x4), (5, .int x5), (6, .int x6), (7, .int x7), (8, .int x8), (9, .int x9), (11, .int s0)] [1, 2, 3, 4, 5, 6, 7, 8, 9, 10, 0] rfl ?_
    exact K_Ru_run_b185 n E S r13 r61 a0 a1 a2 a3 x4 x5 x6 x7 x8 x9 s0 q19.1 q19.2 r M' hr13 hr61 h
theorem K_Ru_run_b131 (n : Nat) (E : zE) (S : zS) (r13 : Nat × Nat × Nat × Nat × Int32 × zH → Option (Int32 × zH)) (r61 : Nat × Nat × Nat × Nat × Int32 × Int32 × Int32 × Int32 × Int32 × Int32 × zH → Option (Int32 × zH)) (a0 : Nat) (a1 : Nat) (a2 : Nat) (a3 : Nat) (x4 : Int32) (x5 : Int32) (x6 : Int32) (x7 : Int32) (x8 : Int32) (x9 : Int32) (s0 : Int32) (M : zH) (r : Int32) (M' : zH) (hr13 : ∀ (a0 : Nat) (a1 : Nat) (a2 : Nat) (a3 : Nat) (x4 : Int32) (M : zH), r13 (a0, a1, a2, a3, x4, M) = some (r, M') → zG E Y_Ru_run (some (.int r), S, M') 13 [(0, .ref a0), (1, .ref a1), (2, .ref a2), (3, .ref a3), (4, .int x4)] [] S M 0 0) (hr61 : ∀ (a0 : Nat) (a1 : Nat) (a2 : Nat) (a3 : Nat) (x4 : Int32) (x5 : Int32) (x6 : Int32) (x7 : Int32) (x8 : Int32) (x9 : Int32) (M : zH), r61 (a0, a1, a2, a3, x4, x5, x6, x7, x8, x9, M) = some (r, M') → zG E Y_Ru_run (some (.int r), S, M') 61 [(0, .ref a0), (1, .ref a1), (2, .ref a2), (3, .ref a3), (4, .int x4), (5, .int x5), (6, .int x6), (7, .int x7), (8, .int x8), (9, .int x9)] [] S M 0 0) (h : F_Ru_run_b131 n E S r13 r61 a0 a1 a2 a3 x4 x5 x6 x7 x8 x9 s0 M = some (r, M')) : zG E Y_Ru_run (some (.int r), S, M') 131 [(0, .ref a0), (1, .ref a1), (2, .ref a2), (3, .ref a3), (4, .int x4), (5, .int x5), (6, .int x6), (7, .int x7), (8, .int x8), (9, .int x9)] [.int s0] S M 0 0 := by
  unfold F_Ru_run_b131 at h
  refine zi_istore [(10, .int s0), (0, .ref a0), (1, .ref a1), (2, .ref a2), (3, .ref a3), (4, .int x4), (5, .int x5), (6, .int x6), (7, .int x7), (8, .int x8), (9, .int x9)] d_Ru_run_131 (by decide) rfl ?_
  refine zi_iload 0 d_Ru_run_133 rfl ?_
  refine zi_if_eq (tgt := 157) d_Ru_run_135 rfl (fun c20 => ?_) (fun c20 => ?_)
  · rw [if_pos c20] at h
    refine zi_iconst 0 d_Ru_run_157 rfl ?_
    refine zi_lo [(0, .ref a0), (1, .ref a1), (2, .ref a2), (3, .ref a3), (4, .int x4), (5, .int x5), (6, .int x6), (7, .int x7), (8, .int x8), (9, .int x9), (10, .int s0)] [1, 2, 3, 4, 5, 6, 7, 8, 9, 10, 0] rfl ?_
    exact K_Ru_run_b158 n E S r13 r61 a0 a1 a2 a3 x4 x5 x6 x7 x8 x9 s0 0 M r M' hr13 hr61 h
  · rw [if_neg c20] at h
    refine zi_aload_n 1 d_Ru_run_138 rfl ?_
    obtain ⟨b21, eb21, h⟩ := zbind h
    refine zo_getR 142 zkd_7 2 d_Ru_run_139 eb21 rfl tw_272 rfl ?_
    refine zi_aload_n 4 d_Ru_run_142 rfl ?_
    refine zi_iload 6 d_Ru_run_143 rfl ?_
    refine zi_iload 7 d_Ru_run_145 rfl ?_
    refine zi_aload_n 1 d_Ru_run_147 rfl ?_
    obtain ⟨b22, eb22, h⟩ := zbind h
    refine zo_getR 151 zkd_7 3 d_Ru_run_148 eb22 rfl tw_273 rfl ?_
    obtain ⟨u23, eu23, h⟩ := zbind h
    obtain ⟨q24, eq24, h⟩ := zbind h
    refine zo_virt (k' := 0) (n' := 0) 154 [.ref a3, .int x5, .int x6, .ref b22] [] [.int q24.1] zkd_2 (zck_s eu23) (C_Mc_work n E S b21 a3 x5 x6 b22 M q24.1 q24.2 eq24) d_Ru_run_151 tw_430 tw_889 tw_428 tw_429 tw_9 dd_Mc_work ⟨Nat.le_of_ble_eq_true rfl, Nat.le_of_ble_eq_true rfl, Nat.le_of_ble_eq_true rfl, Nat.le_of_ble_eq_true rfl⟩ (Nat.le_of_ble_eq_true rfl) rfl rfl rfl rfl ?_
    refine zi_goto (tgt := 158) d_Ru_run_154 rfl ?_
    refine zi_lo [(0, .ref a0), (1, .ref a1), (2, .ref a2), (3, .ref a3), (4, .int x4), (5, .int x5), (6, .int x6), (7, .int x7), (8, .int x8), (9, .int x9), (10, .int s0)] [1, 2, 3, 4, 5, 6, 7, 8, 9, 10, 0] rfl ?_
    exact K_Ru_run_b158 n E S r13 r61 a0 a1 a2 a3 x4 x5 x6 x7 x8 x9 s0 q24.1 q24.2 r M' hr13 hr61 h
theorem K_Ru_run_b115 (n : Nat) (E : zE) (S : zS) (r13 : Nat × Nat × Nat × Nat × Int32 × zH → Option (Int32 × zH)) (r61 : Nat × Nat × Nat × Nat × Int32 × Int32 × Int32 × Int32 × Int32 × Int32 × zH → Option (Int32 × zH)) (a0 : Nat) (a1 : Nat) (a2 : Nat) (a3 : Nat) (x4 : Int32) (x5 : Int32) (x6 : Int32) (x7 : Int32) (x8 : Int32) (x9 : Int32) (M : zH) (r : Int32) (M' : zH) (hr13 : ∀ (a0 : Nat) (a1 : Nat) (a2 : Nat) (a3 : Nat) (x4 : Int32) (M : zH), r13 (a0, a1, a2, a3, x4, M) = some (r, M') → zG E Y_Ru_run (some (.int r), S, M') 13 [(0, .ref a0), (1, .ref a1), (2, .ref a2), (3, .ref a3), (4, .int x4)] [] S M 0 0) (hr61 : ∀ (a0 : Nat) (a1 : Nat) (a2 : Nat) (a3 : Nat) (x4 : Int32) (x5 : Int32) (x6 : Int32) (x7 : Int32) (x8 : Int32) (x9 : Int32) (M : zH), r61 (a0, a1, a2, a3, x4, x5, x6, x7, x8, x9, M) = some (r, M') → zG E Y_Ru_run (some (.int r), S, M') 61 [(0, .ref a0), (1, .ref a1), (2, .ref a2), (3, .ref a3), (4, .int x4), (5, .int x5), (6, .int x6), (7, .int x7), (8, .int x8), (9, .int x9)] [] S M 0 0) (h : F_Ru_run_b115 n E S r13 r61 a0 a1 a2 a3 x4 x5 x6 x7 x8 x9 M = some (r, M')) : zG E Y_Ru_run (some (.int r), S, M') 115 [(0, .ref a0), (1, .ref a1), (2, .ref a2), (3, .ref a3), (4, .int x4), (5, .int x5), (6, .int x6), (7, .int x7), (8, .int x8), (9, .int x9)] [] S M 0 0 := by
  unfold F_Ru_run_b115 at h
  refine zi_aload_n 3 d_Ru_run_115 rfl ?_
  obtain ⟨b25, eb25, h⟩ := zbind h
  refine zo_getR 119 zkd_9 1 d_Ru_run_116 eb25 rfl tw_188 rfl ?_
  refine zi_iload 4 d_Ru_run_119 rfl ?_
  obtain ⟨v26, ev26, h⟩ := zbind h
  refine zo_iald 122 d_Ru_run_121 ev26 rfl ?_
  refine zi_iconst 3 d_Ru_run_122 rfl ?_
  refine zi_icmp_eq (tgt := 130) d_Ru_run_123 rfl (fun c27 => ?_) (fun c27 => ?_)
  · rw [if_pos c27] at h
    refine zi_iconst 0 d_Ru_run_130 rfl ?_
    refine zi_lo [(0, .ref a0), (1, .ref a1), (2, .ref a2), (3, .ref a3), (4, .int x4), (5, .int x5), (6, .int x6), (7, .int x7), (8, .int x8), (9, .int x9)] [0, 1, 2, 3, 4, 5, 6, 7, 8, 9] rfl ?_
    exact K_Ru_run_b131 n E S r13 r61 a0 a1 a2 a3 x4 x5 x6 x7 x8 x9 0 M r M' hr13 hr61 h
  · rw [if_neg c27] at h
    refine zi_iconst 1 d_Ru_run_126 rfl ?_
    refine zi_goto (tgt := 131) d_Ru_run_127 rfl ?_
    refine zi_lo [(0, .ref a0), (1, .ref a1), (2, .ref a2), (3, .ref a3), (4, .int x4), (5, .int x5), (6, .int x6), (7, .int x7), (8, .int x8), (9, .int x9)] [0, 1, 2, 3, 4, 5, 6, 7, 8, 9] rfl ?_
    exact K_Ru_run_b131 n E S r13 r61 a0 a1 a2 a3 x4 x5 x6 x7 x8 x9 1 M r M' hr13 hr61 h
theorem K_Ru_run_L61 (n : Nat) (E : zE) (S : zS) (r13 : Nat × Nat × Nat × Nat × Int32 × zH → Option (Int32 × zH)) (r61 : Nat × Nat × Nat × Nat × Int32 × Int32 × Int32 × Int32 × Int32 × Int32 × zH → Option (Int32 × zH)) (a0 : Nat) (a1 : Nat) (a2 : Nat) (a3 : Nat) (x4 : Int32) (x5 : Int32) (x6 : Int32) (x7 : Int32) (x8 : Int32) (x9 : Int32) (M : zH) (r : Int32) (M' : zH) (hr13 : ∀ (a0 : Nat) (a1 : Nat) (a2 : Nat) (a3 : Nat) (x4 : Int32) (M : zH), r13 (a0, a1, a2, a3, x4, M) = some (r, M') → zG E Y_Ru_run (some (.int r), S, M') 13 [(0, .ref a0), (1, .ref a1), (2, .ref a2), (3, .ref a3), (4, .int x4)] [] S M 0 0) (hr61 : ∀ (a0 : Nat) (a1 : Nat) (a2 : Nat) (a3 : Nat) (x4 : Int32) (x5 : Int32) (x6 : Int32) (x7 : Int32) (x8 : Int32) (x9 : Int32) (M : zH), r61 (a0, a1, a2, a3, x4, x5, x6, x7, x8, x9, M) = some (r, M') → zG E Y_Ru_run (some (.int r), S, M') 61 [(0, .ref a0), (1, .ref a1), (2, .ref a2), (3, .ref a3), (4, .int x4), (5, .int x5), (6, .int x6), (7, .int x7), (8, .int x8), (9, .int x9)] [] S M 0 0) (h : F_Ru_run_L61 n E S r13 r61 a0 a1 a2 a3 x4 x5 x6 x7 x8 x9 M = some (r, M')) : zG E Y_Ru_run (some (.int r), S, M') 61 [(0, .ref a0), (1, .ref a1), (2, .ref a2), (3, .ref a3), (4, .int x4), (5, .int x5), (6, .int x6), (7, .int x7), (8, .int x8), (9, .int x9)] [] S M 0 0 := by
  unfold F_Ru_run_L61 at h
  refine zi_iload 9 d_Ru_run_61 rfl ?_
  refine zi_aload_n 3 d_Ru_run_63 rfl ?_
  obtain ⟨b28, eb28, h⟩ := zbind h
  refine zo_getR 67 zkd_9 2 d_Ru_run_64 eb28 rfl tw_191 rfl ?_
  refine zi_iload 4 d_Ru_run_67 rfl ?_
  obtain ⟨v29, ev29, h⟩ := zbind h
  refine zo_iald 70 d_Ru_run_69 ev29 rfl ?_
  refine zi_icmp_ge (tgt := 274) d_Ru_run_70 rfl (fun c30 => ?_) (fun c30 => ?_)
  · rw [if_pos c30] at h
    refine zi_iinc 4 (x4 + 1) [(4, .int (x4 + 1)), (0, .ref a0), (1, .ref a1), (2, .ref a2), (3, .ref a3), (5, .int x5), (6, .int x6), (7, .int x7), (8, .int x8), (9, .int x9)] d_Ru_run_274 rfl rfl (by decide) rfl ?_
    refine zi_goto (tgt := 13) d_Ru_run_277 rfl ?_
    refine zi_lo [(0, .ref a0), (1, .ref a1), (2, .ref a2), (3, .ref a3), (4, .int (x4 + 1))] [1, 2, 3, 4, 0] rfl ?_
    exact hr13 a0 a1 a2 a3 (x4 + 1) M h
  · rw [if_neg c30] at h
    refine zi_aload_n 0 d_Ru_run_73 rfl ?_
    refine zi_aload_n 1 d_Ru_run_74 rfl ?_
    refine zi_aload_n 3 d_Ru_run_75 rfl ?_
    obtain ⟨b31, eb31, h⟩ := zbind h
    refine zo_getR 79 zkd_9 3 d_Ru_run_76 eb31 rfl tw_193 rfl ?_
    refine zi_iload 4 d_Ru_run_79 rfl ?_
    obtain ⟨v32, ev32, h⟩ := zbind h
    refine zo_iald 82 d_Ru_run_81 ev32 rfl ?_
    obtain ⟨u33, eu33, h⟩ := zbind h
    obtain ⟨q34, eq34, h⟩ := zbind h
    refine zo_virt (k' := 0) (n' := 0) 85 [.ref a1, .int v32] [] [] zkd_7 (zck_s eu33) (C_Ru_findWords n E S a0 a1 v32 M q34 eq34) d_Ru_run_82 tw_882 tw_879 tw_881 ts_21 tw_11 dd_Ru_findWords ⟨Nat.le_of_ble_eq_true rfl, Nat.le_of_ble_eq_true rfl, Nat.le_of_ble_eq_true rfl, Nat.le_of_ble_eq_true rfl⟩ (Nat.le_of_ble_eq_true rfl) rfl rfl rfl rfl ?_
    refine zi_iload 7 d_Ru_run_85 rfl ?_
    refine zi_iload 8 d_Ru_run_87 rfl ?_
    refine zi_icmp_ge (tgt := 115) d_Ru_run_89 rfl (fun c35 => ?_) (fun c35 => ?_)
    · rw [if_pos c35] at h
      refine zi_lo [(0, .ref a0), (1, .ref a1), (2, .ref a2), (3, .ref a3), (4, .int x4), (5, .int x5), (6, .int x6), (7, .int x7), (8, .int x8), (9, .int x9)] [0, 1, 2, 3, 4, 5, 6, 7, 8, 9] rfl ?_
      exact K_Ru_run_b115 n E S r13 r61 a0 a1 a2 a3 x4 x5 x6 x7 x8 x9 q34 r M' hr13 hr61 h
    · rw [if_neg c35] at h
      refine zi_aload_n 0 d_Ru_run_92 rfl ?_
      obtain ⟨b36, eb36, h⟩ := zbind h
      refine zo_getR 96 zkd_7 2 d_Ru_run_93 eb36 rfl tw_272 rfl ?_
      refine zi_aload_n 3 d_Ru_run_96 rfl ?_
      refine zi_iload 7 d_Ru_run_97 rfl ?_
      refine zi_iload 8 d_Ru_run_99 rfl ?_
      refine zi_aload_n 0 d_Ru_run_101 rfl ?_
      obtain ⟨b37, eb37, h⟩ := zbind h
      refine zo_getR 105 zkd_7 3 d_Ru_run_102 eb37 rfl tw_273 rfl ?_
      obtain ⟨u38, eu38, h⟩ := zbind h
      obtain ⟨q39, eq39, h⟩ := zbind h
      refine zo_virt (k' := 0) (n' := 0) 108 [.ref a3, .int x7, .int x8, .ref b37] [] [.int q39.1] zkd_2 (zck_s eu38) (C_Mc_work n E S b36 a3 x7 x8 b37 q34 q39.1 q39.2 eq39) d_Ru_run_105 tw_430 tw_889 tw_428 tw_429 tw_9 dd_Mc_work ⟨Nat.le_of_ble_eq_true rfl, Nat.le_of_ble_eq_true rfl, Nat.le_of_ble_eq_true rfl, Nat.le_of_ble_eq_true rfl⟩ (Nat.le_of_ble_eq_true rfl) rfl rfl rfl rfl ?_
      refine zi_iconst 1 d_Ru_run_108 rfl ?_
      refine zi_icmp_eq (tgt := 115) d_Ru_run_109 rfl (fun c40 => ?_) (fun c40 => ?_)
      · rw [if_pos c40] at h
        refine zi_lo [(0, .ref a0), (1, .ref a1), (2, .ref a2), (3, .ref a3), (4, .int x4), (5, .int x5), (6, .int x6), (7, .int x7), (8, .int x8), (9, .int x9)] [0, 1, 2, 3, 4, 5, 6, 7, 8, 9] rfl ?_
        exact K_Ru_run_b115 n E S r13 r61 a0 a1 a2 a3 x4 x5 x6 x7 x8 x9 q39.2 r M' hr13 hr61 h
      · rw [if_neg c40] at h
        refine zi_goto (tgt := 268) d_Ru_run_112 rfl ?_
        refine zi_lo [(0, .ref a0), (1, .ref a1), (2, .ref a2), (3, .ref a3), (4, .int x4), (5, .int x5), (6, .int x6), (7, .int x7), (8, .int x8), (9, .int x9)] [0, 1, 2, 3, 4, 5, 6, 7, 8, 9] rfl ?_
        exact K_Ru_run_b268 n E S r13 r61 a0 a1 a2 a3 x4 x5 x6 x7 x8 x9 q39.2 r M' hr13 hr61 h
theorem K_Ru_run_b61 (n : Nat) (E : zE) (S : zS) (r13 : Nat × Nat × Nat × Nat × Int32 × zH → Option (Int32 × zH)) (a0 : Nat) (a1 : Nat) (a2 : Nat) (a3 : Nat) (x4 : Int32) (x5 : Int32) (x6 : Int32) (x7 : Int32) (x8 : Int32) (x9 : Int32) (M : zH) (r : Int32) (M' : zH) (hr13 : ∀ (a0 : Nat) (a1 : Nat) (a2 : Nat) (a3 : Nat) (x4 : Int32) (M : zH), r13 (a0, a1, a2, a3, x4, M) = some (r, M') → zG E Y_Ru_run (some (.int r), S, M') 13 [(0, .ref a0), (1, .ref a1), (2, .ref a2), (3, .ref a3), (4, .int x4)] [] S M 0 0) (h : F_Ru_run_b61 n E S r13 (a0, a1, a2, a3, x4, x5, x6, x7, x8, x9, M) = some (r, M')) : zG E Y_Ru_run (some (.int r), S, M') 61 [(0, .ref a0), (1, .ref a1), (2, .ref a2), (3, .ref a3), (4, .int x4), (5, .int x5), (6, .int x6), (7, .int x7), (8, .int x8), (9, .int x9)] [] S M 0 0 := by
  have key : ∀ (k : Nat) (a0 : Nat) (a1 : Nat) (a2 : Nat) (a3 : Nat) (x4 : Int32) (x5 : Int32) (x6 : Int32) (x7 : Int32) (x8 : Int32) (x9 : Int32) (M : zH), zfix (fun r61 s => F_Ru_run_L61 n E S r13 r61 s.1 s.2.1 s.2.2.1 s.2.2.2.1 s.2.2.2.2.1 s.2.2.2.2.2.1 s.2.2.2.2.2.2.1 s.2.2.2.2.2.2.2.1 s.2.2.2.2.2.2.2.2.1 s.2.2.2.2.2.2.2.2.2.1 s.2.2.2.2.2.2.2.2.2.2) k (a0, a1, a2, a3, x4, x5, x6, x7, x8, x9, M) = some (r, M') → zG E Y_Ru_run (some (.int r), S, M') 61 [(0, .ref a0), (1, .ref a1), (2, .ref a2), (3, .ref a3), (4, .int x4), (5, .int x5), (6, .int x6), (7, .int x7), (8, .int x8), (9, .int x9)] [] S M 0 0 := by
    intro k
    induction k with
    | zero => intro a0 a1 a2 a3 x4 x5 x6 x7 x8 x9 M h; cases h
    | succ k ih => intro a0 a1 a2 a3 x4 x5 x6 x7 x8 x9 M h; exact K_Ru_run_L61 n E S r13 _ a0 a1 a2 a3 x4 x5 x6 x7 x8 x9 M r M' hr13 (fun a0 a1 a2 a3 x4 x5 x6 x7 x8 x9 M h => ih a0 a1 a2 a3 x4 x5 x6 x7 x8 x9 M h) h
  exact key n a0 a1 a2 a3 x4 x5 x6 x7 x8 x9 M h
theorem K_Ru_run_L13 (n : Nat) (E : zE) (S : zS) (r13 : Nat × Nat × Nat × Nat × Int32 × zH → Option (Int32 × zH)) (a0 : Nat) (a1 : Nat) (a2 : Nat) (a3 : Nat) (x4 : Int32) (M : zH) (r : Int32) (M' : zH) (hr13 : ∀ (a0 : Nat) (a1 : Nat) (a2 : Nat) (a3 : Nat) (x4 : Int32) (M : zH), r13 (a0, a1, a2, a3, x4, M) = some (r, M') → zG E Y_Ru_run (some (.int r), S, M') 13 [(0, .ref a0), (1, .ref a1), (2, .ref a2), (3, .ref a3), (4, .int x4)] [] S M 0 0) (h : F_Ru_run_L13 n E S r13 a0 a1 a2 a3 x4 M = some (r, M')) : zG E Y_Ru_run (some (.int r), S, M') 13 [(0, .ref a0), (1, .ref a1), (2, .ref a2), (3, .ref a3), (4, .int x4)] [] S M 0 0 := by
  unfold F_Ru_run_L13 at h
  refine zi_iload 4 d_Ru_run_13 rfl ?_
  refine zi_aload_n 3 d_Ru_run_15 rfl ?_
  obtain ⟨v41, ev41, h⟩ := zbind h
  refine zo_getI 19 zkd_9 6 d_Ru_run_16 ev41 rfl tw_198 rfl ?_
  refine zi_icmp_ge (tgt := 280) d_Ru_run_19 rfl (fun c42 => ?_) (fun c42 => ?_)
  · rw [if_pos c42] at h
    refine zi_iconst (-1) d_Ru_run_280 rfl ?_
    cases h
    exact zo_ret d_Ru_run_281 (Nat.le_of_ble_eq_true rfl) (Nat.le_of_ble_eq_true rfl) rfl
  · rw [if_neg c42] at h
    refine zi_aload_n 3 d_Ru_run_22 rfl ?_
    refine zi_iload 4 d_Ru_run_23 rfl ?_
    refine zi_iconst 0 d_Ru_run_25 rfl ?_
    obtain ⟨q43, eq43, h⟩ := zbind h
    refine zo_virt (k' := 0) (n' := 0) 29 [.int x4, .int 0] [] [.int q43.1] zkd_9 (zgI_s ev41).1 (C_Te_markOf n E S a3 x4 0 M q43.1 q43.2 eq43) d_Ru_run_26 tw_426 tw_878 tw_424 tw_425 tw_7 dd_Te_markOf ⟨Nat.le_of_ble_eq_true rfl, Nat.le_of_ble_eq_true rfl, Nat.le_of_ble_eq_true rfl, Nat.le_of_ble_eq_true rfl⟩ (Nat.le_of_ble_eq_true rfl) rfl rfl rfl rfl ?_
    refine zi_istore [(5, .int q43.1), (0, .ref a0), (1, .ref a1), (2, .ref a2), (3, .ref a3), (4, .int x4)] d_Ru_run_29 (by decide) rfl ?_
    refine zi_aload_n 4 d_Ru_run_31 rfl ?_
    refine zi_iload 5 d_Ru_run_32 rfl ?_
    refine zi_iconst 1 d_Ru_run_34 rfl ?_
    obtain ⟨q44, eq44, h⟩ := zbind h
    refine zo_virt (k' := 0) (n' := 0) 38 [.int x4, .int 1] [] [.int q44.1] zkd_9 (zgI_s ev41).1 (C_Te_markOf n E S a3 x4 1 q43.2 q44.1 q44.2 eq44) d_Ru_run_35 tw_426 tw_878 tw_424 tw_425 tw_7 dd_Te_markOf ⟨Nat.le_of_ble_eq_true rfl, Nat.le_of_ble_eq_true rfl, Nat.le_of_ble_eq_true rfl, Nat.le_of_ble_eq_true rfl⟩ (Nat.le_of_ble_eq_true rfl) rfl rfl rfl rfl ?_
    refine zi_istore [(6, .int q44.1), (5, .int q43.1), (0, .ref a0), (1, .ref a1), (2, .ref a2), (3, .ref a3), (4, .int x4)] d_Ru_run_38 (by decide) rfl ?_
    refine zi_aload_n 5 d_Ru_run_40 rfl ?_
    refine zi_iload 6 d_Ru_run_41 rfl ?_
    refine zi_iconst 2 d_Ru_run_43 rfl ?_
    obtain ⟨q45, eq45, h⟩ := zbind h
    refine zo_virt (k' := 0) (n' := 0) 47 [.int x4, .int 2] [] [.int q45.1] zkd_9 (zgI_s ev41).1 (C_Te_markOf n E S a3 x4 2 q44.2 q45.1 q45.2 eq45) d_Ru_run_44 tw_426 tw_878 tw_424 tw_425 tw_7 dd_Te_markOf ⟨Nat.le_of_ble_eq_true rfl, Nat.le_of_ble_eq_true rfl, Nat.le_of_ble_eq_true rfl, Nat.le_of_ble_eq_true rfl⟩ (Nat.le_of_ble_eq_true rfl) rfl rfl rfl rfl ?_
    refine zi_istore [(7, .int q45.1), (6, .int q44.1), (5, .int q43.1), (0, .ref a0), (1, .ref a1), (2, .ref a2), (3, .ref a3), (4, .int x4)] d_Ru_run_47 (by decide) rfl ?_
    refine zi_aload_n 6 d_Ru_run_49 rfl ?_
    refine zi_iload 7 d_Ru_run_50 rfl ?_
    refine zi_iconst 3 d_Ru_run_52 rfl ?_
    obtain ⟨q46, eq46, h⟩ := zbind h
    refine zo_virt (k' := 0) (n' := 0) 56 [.int x4, .int 3] [] [.int q46.1] zkd_9 (zgI_s ev41).1 (C_Te_markOf n E S a3 x4 3 q45.2 q46.1 q46.2 eq46) d_Ru_run_53 tw_426 tw_878 tw_424 tw_425 tw_7 dd_Te_markOf ⟨Nat.le_of_ble_eq_true rfl, Nat.le_of_ble_eq_true rfl, Nat.le_of_ble_eq_true rfl, Nat.le_of_ble_eq_true rfl⟩ (Nat.le_of_ble_eq_true rfl) rfl rfl rfl rfl ?_
    refine zi_istore [(8, .int q46.1), (7, .int q45.1), (6, .int q44.1), (5, .int q43.1), (0, .ref a0), (1, .ref a1), (2, .ref a2), (3, .ref a3), (4, .int x4)] d_Ru_run_56 (by decide) rfl ?_
    refine zi_iconst 0 d_Ru_run_58 rfl ?_
    refine zi_istore [(9, .int 0), (8, .int q46.1), (7, .int q45.1), (6, .int q44.1), (5, .int q43.1), (0, .ref a0), (1, .ref a1), (2, .ref a2), (3, .ref a3), (4, .int x4)] d_Ru_run_59 (by decide) rfl ?_
    refine zi_lo [(0, .ref a0), (1, .ref a1), (2, .ref a2), (3, .ref a3), (4, .int x4), (5, .int q43.1), (6, .int q44.1), (7, .int q45.1), (8, .int q46.1), (9, .int 0)] [5, 6, 7, 8, 9, 4, 3, 2, 1, 0] rfl ?_
    exact K_Ru_run_b61 n E S r13 a0 a1 a2 a3 x4 q43.1 q44.1 q45.1 q46.1 0 q46.2 r M' hr13 h
theorem K_Ru_run_b13 (n : Nat) (E : zE) (S : zS) (a0 : Nat) (a1 : Nat) (a2 : Nat) (a3 : Nat) (x4 : Int32) (M : zH) (r : Int32) (M' : zH)  (h : F_Ru_run_b13 n E S (a0, a1, a2, a3, x4, M) = some (r, M')) : zG E Y_Ru_run (some (.int r), S, M') 13 [(0, .ref a0), (1, .ref a1), (2, .ref a2), (3, .ref a3), (4, .int x4)] [] S M 0 0 := by
  have key : ∀ (k : Nat) (a0 : Nat) (a1 : Nat) (a2 : Nat) (a3 : Nat) (x4 : Int32) (M : zH), zfix (fun r13 s => F_Ru_run_L13 n E S r13 s.1 s.2.1 s.2.2.1 s.2.2.2.1 s.2.2.2.2.1 s.2.2.2.2.2) k (a0, a1, a2, a3, x4, M) = some (r, M') → zG E Y_Ru_run (some (.int r), S, M') 13 [(0, .ref a0), (1, .ref a1), (2, .ref a2), (3, .ref a3), (4, .int x4)] [] S M 0 0 := by
    intro k
    induction k with
    | zero => intro a0 a1 a2 a3 x4 M h; cases h
    | succ k ih => intro a0 a1 a2 a3 x4 M h; exact K_Ru_run_L13 n E S _ a0 a1 a2 a3 x4 M r M'  (fun a0 a1 a2 a3 x4 M h => ih a0 a1 a2 a3 x4 M h) h
  exact key n a0 a1 a2 a3 x4 M h
theorem K_Ru_run (n : Nat) (E : zE) (S : zS) (a0 : Nat) (a1 : Nat) (a2 : Nat) (a3 : Nat) (M : zH) (r : Int32) (M' : zH)  (h : F_Ru_run n E S a0 a1 a2 a3 M = some (r, M')) : zG E Y_Ru_run (some (.int r), S, M') 0 [(0, .ref a0), (1, .ref a1), (2, .ref a2), (3, .ref a3)] [] S M 0 0 := by
  unfold F_Ru_run at h
  refine zi_aload_n 0 d_Ru_run_0 rfl ?_
  refine zi_iconst 0 d_Ru_run_1 rfl ?_
  obtain ⟨m47, em47, h⟩ := zbind h
  refine zo_putI 5 zkd_7 4 d_Ru_run_2 em47 rfl rfl rfl tw_274 rfl ?_
  refine zi_aload_n 0 d_Ru_run_5 rfl ?_
  refine zi_iconst (-1) d_Ru_run_6 rfl ?_
  obtain ⟨m48, em48, h⟩ := zbind h
  refine zo_putI 10 zkd_7 5 d_Ru_run_7 em48 rfl rfl rfl tw_276 rfl ?_
  refine zi_iconst 0 d_Ru_run_10 rfl ?_
  refine zi_istore [(4, .int 0), (0, .ref a0), (1, .ref a1), (2, .ref a2), (3, .ref a3)] d_Ru_run_11 (by decide) rfl ?_
  refine zi_lo [(0, .ref a0), (1, .ref a1), (2, .ref a2), (3, .ref a3), (4, .int 0)] [1, 2, 3, 4, 0] rfl ?_
  exact K_Ru_run_b13 n E S a0 a1 a2 a3 0 m48 r M'  h
theorem C_Ru_run (n : Nat) (E : zE) (S : zS) (a0 : Nat) (a1 : Nat) (a2 : Nat) (a3 : Nat) (M : zH) (r : Int32) (M' : zH) (h : F_Ru_run n E S a0 a1 a2 a3 M = some (r, M')) : zC E Y_Ru_run [.ref a0, .ref a1, .ref a2, .ref a3] S M (some (.int r), S, M') :=
  zC.of (Or.inl (show plainName "NightColander$Runner" = true by decide)) (Nat.le_of_ble_eq_true rfl) (trivial) (K_Ru_run n E S a0 a1 a2 a3 M r M' h)
