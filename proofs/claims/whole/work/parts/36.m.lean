/-! METHODS (printed by gen/build.py): Mo_begin Mo_beginText Mo_must Mo_endText Mo_isSign Mo_isWord Mo_binds Mo_inner Mo_isCompared Mo_push Mo_emit Mo_settle Mo_behindSum Mo_behindTest -/
theorem d_Mo_begin_0 : decode (yB Y_Mo_begin) 0 = .ok (.aload_n 0, 1) := by decide +kernel
theorem d_Mo_begin_1 : decode (yB Y_Mo_begin) 1 = .ok (.iconst 0, 1) := by decide +kernel
theorem d_Mo_begin_2 : decode (yB Y_Mo_begin) 2 = .ok (.putfield 253, 3) := by decide +kernel
theorem d_Mo_begin_5 : decode (yB Y_Mo_begin) 5 = .ok (.aload_n 0, 1) := by decide +kernel
theorem d_Mo_begin_6 : decode (yB Y_Mo_begin) 6 = .ok (.iconst 0, 1) := by decide +kernel
theorem d_Mo_begin_7 : decode (yB Y_Mo_begin) 7 = .ok (.putfield 256, 3) := by decide +kernel
theorem d_Mo_begin_10 : decode (yB Y_Mo_begin) 10 = .ok (.aload_n 0, 1) := by decide +kernel
theorem d_Mo_begin_11 : decode (yB Y_Mo_begin) 11 = .ok (.iconst (-1), 1) := by decide +kernel
theorem d_Mo_begin_12 : decode (yB Y_Mo_begin) 12 = .ok (.putfield 38, 3) := by decide +kernel
theorem d_Mo_begin_15 : decode (yB Y_Mo_begin) 15 = .ok (.aload_n 0, 1) := by decide +kernel
theorem d_Mo_begin_16 : decode (yB Y_Mo_begin) 16 = .ok (.invokevirtual 260, 3) := by decide +kernel
theorem d_Mo_begin_19 : decode (yB Y_Mo_begin) 19 = .ok (.return_, 1) := by decide +kernel
def F_Mo_begin (n : Nat) (E : zE) (S : zS) (a0 : Nat) (M : zH) : Option (zH) :=
  (zpI S M a0 11 15 0).bind fun m_1 =>
  (zpZ S m_1 a0 11 19 0).bind fun m_2 =>
  (zpI S m_2 a0 11 18 (-1)).bind fun m_3 =>
  (zck S a0 11).bind fun u_4 =>
  (F_Mo_next n E S a0 m_3).bind fun q_5 =>
  some (q_5)
theorem K_Mo_begin (n : Nat) (E : zE) (S : zS) (a0 : Nat) (M : zH) (M' : zH)  (h : F_Mo_begin n E S a0 M = some M') : zG E Y_Mo_begin (none, S, M') 0 [(0, .ref a0)] [] S M 0 0 := by
  unfold F_Mo_begin at h
  refine zi_aload_n 0 d_Mo_begin_0 rfl ?_
  refine zi_iconst 0 d_Mo_begin_1 rfl ?_
  obtain ⟨m_1, em_1, h⟩ := zbind h
  refine zo_putI 5 zkd_11 15 d_Mo_begin_2 em_1 rfl rfl rfl tw_1246 rfl ?_
  refine zi_aload_n 0 d_Mo_begin_5 rfl ?_
  refine zi_iconst 0 d_Mo_begin_6 rfl ?_
  obtain ⟨m_2, em_2, h⟩ := zbind h
  refine zo_putZ 10 zkd_11 19 d_Mo_begin_7 em_2 rfl rfl rfl tw_1250 rfl ?_
  refine zi_aload_n 0 d_Mo_begin_10 rfl ?_
  refine zi_iconst (-1) d_Mo_begin_11 rfl ?_
  obtain ⟨m_3, em_3, h⟩ := zbind h
  refine zo_putI 15 zkd_11 18 d_Mo_begin_12 em_3 rfl rfl rfl tw_1249 rfl ?_
  refine zi_aload_n 0 d_Mo_begin_15 rfl ?_
  obtain ⟨u_4, eu_4, h⟩ := zbind h
  obtain ⟨q_5, eq_5, h⟩ := zbind h
  refine zo_virt (k' := 0) (n' := 0) 19 [] [] [] zkd_11 (zck_s eu_4) (C_Mo_next n E S a0 m_3 q_5 eq_5) d_Mo_begin_16 tw_1579 tw_1576 tw_1578 ts_56 tw_13 dd_Mo_next ⟨Nat.le_of_ble_eq_true rfl, Nat.le_of_ble_eq_true rfl, Nat.le_of_ble_eq_true rfl, Nat.le_of_ble_eq_true rfl⟩ (Nat.le_of_ble_eq_true rfl) rfl rfl rfl rfl ?_
  cases h
  exact zo_ret d_Mo_begin_19 (Nat.le_of_ble_eq_true rfl) (Nat.le_of_ble_eq_true rfl) rfl
theorem C_Mo_begin (n : Nat) (E : zE) (S : zS) (a0 : Nat) (M : zH) (M' : zH) (h : F_Mo_begin n E S a0 M = some M') : zC E Y_Mo_begin [.ref a0] S M (none, S, M') :=
  zC.of (Or.inl (show plainName "NightColanderModel" = true by decide)) (Nat.le_of_ble_eq_true rfl) (trivial) (K_Mo_begin n E S a0 M M' h)
theorem d_Mo_beginText_0 : decode (yB Y_Mo_beginText) 0 = .ok (.aload_n 0, 1) := by decide +kernel
theorem d_Mo_beginText_1 : decode (yB Y_Mo_beginText) 1 = .ok (.iload_n 1, 1) := by decide +kernel
theorem d_Mo_beginText_2 : decode (yB Y_Mo_beginText) 2 = .ok (.putfield 331, 3) := by decide +kernel
theorem d_Mo_beginText_5 : decode (yB Y_Mo_beginText) 5 = .ok (.aload_n 0, 1) := by decide +kernel
theorem d_Mo_beginText_6 : decode (yB Y_Mo_beginText) 6 = .ok (.invokevirtual 382, 3) := by decide +kernel
theorem d_Mo_beginText_9 : decode (yB Y_Mo_beginText) 9 = .ok (.aload_n 0, 1) := by decide +kernel
theorem d_Mo_beginText_10 : decode (yB Y_Mo_beginText) 10 = .ok (.iconst 0, 1) := by decide +kernel
theorem d_Mo_beginText_11 : decode (yB Y_Mo_beginText) 11 = .ok (.putfield 385, 3) := by decide +kernel
theorem d_Mo_beginText_14 : decode (yB Y_Mo_beginText) 14 = .ok (.aload_n 0, 1) := by decide +kernel
theorem d_Mo_beginText_15 : decode (yB Y_Mo_beginText) 15 = .ok (.iconst 0, 1) := by decide +kernel
theorem d_Mo_beginText_16 : decode (yB Y_Mo_beginText) 16 = .ok (.putfield 291, 3) := by decide +kernel
theorem d_Mo_beginText_19 : decode (yB Y_Mo_beginText) 19 = .ok (.aload_n 0, 1) := by decide +kernel
theorem d_Mo_beginText_20 : decode (yB Y_Mo_beginText) 20 = .ok (.iconst 0, 1) := by decide +kernel
theorem d_Mo_beginText_21 : decode (yB Y_Mo_beginText) 21 = .ok (.putfield 322, 3) := by decide +kernel
theorem d_Mo_beginText_24 : decode (yB Y_Mo_beginText) 24 = .ok (.return_, 1) := by decide +kernel
def F_Mo_beginText (n : Nat) (E : zE) (S : zS) (a0 : Nat) (x1 : Int32) (M : zH) : Option (zH) :=
  (zpZ S M a0 11 20 x1).bind fun m_1 =>
  (zck S a0 11).bind fun u_2 =>
  (F_Mo_begin n E S a0 m_1).bind fun q_3 =>
  (zpI S q_3 a0 11 21 0).bind fun m_4 =>
  (zpI S m_4 a0 11 23 0).bind fun m_5 =>
  (zpI S m_5 a0 11 26 0).bind fun m_6 =>
  some (m_6)
theorem K_Mo_beginText (n : Nat) (E : zE) (S : zS) (a0 : Nat) (x1 : Int32) (M : zH) (M' : zH)  (h : F_Mo_beginText n E S a0 x1 M = some M') : zG E Y_Mo_beginText (none, S, M') 0 [(0, .ref a0), (1, .int x1)] [] S M 0 0 := by
  unfold F_Mo_beginText at h
  refine zi_aload_n 0 d_Mo_beginText_0 rfl ?_
  refine zi_iload_n 1 d_Mo_beginText_1 rfl ?_
  obtain ⟨m_1, em_1, h⟩ := zbind h
  refine zo_putZ 5 zkd_11 20 d_Mo_beginText_2 em_1 rfl rfl rfl tw_1251 rfl ?_
  refine zi_aload_n 0 d_Mo_beginText_5 rfl ?_
  obtain ⟨u_2, eu_2, h⟩ := zbind h
  obtain ⟨q_3, eq_3, h⟩ := zbind h
  refine zo_virt (k' := 0) (n' := 0) 9 [] [] [] zkd_11 (zck_s eu_2) (C_Mo_begin n E S a0 m_1 q_3 eq_3) d_Mo_beginText_6 tw_1575 tw_1572 tw_1574 ts_55 tw_13 dd_Mo_begin ⟨Nat.le_of_ble_eq_true rfl, Nat.le_of_ble_eq_true rfl, Nat.le_of_ble_eq_true rfl, Nat.le_of_ble_eq_true rfl⟩ (Nat.le_of_ble_eq_true rfl) rfl rfl rfl rfl ?_
  refine zi_aload_n 0 d_Mo_beginText_9 rfl ?_
  refine zi_iconst 0 d_Mo_beginText_10 rfl ?_
  obtain ⟨m_4, em_4, h⟩ := zbind h
  refine zo_putI 14 zkd_11 21 d_Mo_beginText_11 em_4 rfl rfl rfl tw_1252 rfl ?_
  refine zi_aload_n 0 d_Mo_beginText_14 rfl ?_
  refine zi_iconst 0 d_Mo_beginText_15 rfl ?_
  obtain ⟨m_5, em_5, h⟩ := zbind h
  refine zo_putI 19 zkd_11 23 d_Mo_beginText_16 em_5 rfl rfl rfl tw_1254 rfl ?_
  refine zi_aload_n 0 d_Mo_beginText_19 rfl ?_
  refine zi_iconst 0 d_Mo_beginText_20 rfl ?_
  obtain ⟨m_6, em_6, h⟩ := zbind h
  refine zo_putI 24 zkd_11 26 d_Mo_beginText_21 em_6 rfl rfl rfl tw_1257 rfl ?_
  cases h
  exact zo_ret d_Mo_beginText_24 (Nat.le_of_ble_eq_true rfl) (Nat.le_of_ble_eq_true rfl) rfl
theorem C_Mo_beginText (n : Nat) (E : zE) (S : zS) (a0 : Nat) (x1 : Int32) (M : zH) (M' : zH) (h : F_Mo_beginText n E S a0 x1 M = some M') : zC E Y_Mo_beginText [.ref a0, .int x1] S M (none, S, M') :=
  zC.of (Or.inl (show plainName "NightColanderModel" = true by decide)) (Nat.le_of_ble_eq_true rfl) (trivial) (K_Mo_beginText n E S a0 x1 M M' h)
theorem d_Mo_must_0 : decode (yB Y_Mo_must) 0 = .ok (.aload_n 0, 1) := by decide +kernel
theorem d_Mo_must_1 : decode (yB Y_Mo_must) 1 = .ok (.getfield 256, 3) := by decide +kernel
theorem d_Mo_must_4 : decode (yB Y_Mo_must) 4 = .ok (.ifCond .ne 20, 3) := by decide +kernel
theorem d_Mo_must_7 : decode (yB Y_Mo_must) 7 = .ok (.iload_n 1, 1) := by decide +kernel
theorem d_Mo_must_8 : decode (yB Y_Mo_must) 8 = .ok (.ifCond .ne 16, 3) := by decide +kernel
theorem d_Mo_must_11 : decode (yB Y_Mo_must) 11 = .ok (.aload_n 0, 1) := by decide +kernel
theorem d_Mo_must_12 : decode (yB Y_Mo_must) 12 = .ok (.iconst 1, 1) := by decide +kernel
theorem d_Mo_must_13 : decode (yB Y_Mo_must) 13 = .ok (.putfield 256, 3) := by decide +kernel
theorem d_Mo_must_16 : decode (yB Y_Mo_must) 16 = .ok (.aload_n 0, 1) := by decide +kernel
theorem d_Mo_must_17 : decode (yB Y_Mo_must) 17 = .ok (.aload_n 0, 1) := by decide +kernel
theorem d_Mo_must_18 : decode (yB Y_Mo_must) 18 = .ok (.getfield 263, 3) := by decide +kernel
theorem d_Mo_must_21 : decode (yB Y_Mo_must) 21 = .ok (.putfield 38, 3) := by decide +kernel
theorem d_Mo_must_24 : decode (yB Y_Mo_must) 24 = .ok (.aload_n 0, 1) := by decide +kernel
theorem d_Mo_must_25 : decode (yB Y_Mo_must) 25 = .ok (.getfield 256, 3) := by decide +kernel
theorem d_Mo_must_28 : decode (yB Y_Mo_must) 28 = .ok (.ifCond .ne 7, 3) := by decide +kernel
theorem d_Mo_must_31 : decode (yB Y_Mo_must) 31 = .ok (.aload_n 0, 1) := by decide +kernel
theorem d_Mo_must_32 : decode (yB Y_Mo_must) 32 = .ok (.invokevirtual 260, 3) := by decide +kernel
theorem d_Mo_must_35 : decode (yB Y_Mo_must) 35 = .ok (.return_, 1) := by decide +kernel
def F_Mo_must_b24 (n : Nat) (E : zE) (S : zS) (a0 : Nat) (M : zH) : Option (zH) :=
  (zgI S M a0 11 19).bind fun v_1 =>
  if v_1 = 0 then
    (F_Mo_next n E S a0 M).bind fun q_3 =>
    some (q_3)
  else
    some (M)
def F_Mo_must (n : Nat) (E : zE) (S : zS) (a0 : Nat) (x1 : Int32) (M : zH) : Option (zH) :=
  (zgI S M a0 11 19).bind fun v_4 =>
  if v_4 = 0 then
    if x1 = 0 then
      (zpZ S M a0 11 19 1).bind fun m_7 =>
      (zgI S m_7 a0 11 14).bind fun v_8 =>
      (zpI S m_7 a0 11 18 v_8).bind fun m_9 =>
      F_Mo_must_b24 n E S a0 m_9
    else
      F_Mo_must_b24 n E S a0 M
  else
    F_Mo_must_b24 n E S a0 M
theorem K_Mo_must_b24 (n : Nat) (E : zE) (S : zS) (a0 : Nat) (M : zH) (M' : zH)  (h : F_Mo_must_b24 n E S a0 M = some M') : zG E Y_Mo_must (none, S, M') 24 [(0, .ref a0)] [] S M 0 0 := by
  unfold F_Mo_must_b24 at h
  refine zi_aload_n 0 d_Mo_must_24 rfl ?_
  obtain ⟨v_1, ev_1, h⟩ := zbind h
  refine zo_getI 28 zkd_11 19 d_Mo_must_25 ev_1 rfl tw_1250 rfl ?_
  refine zi_if_ne (tgt := 35) d_Mo_must_28 rfl (fun c_2 => ?_) (fun c_2 => ?_)
  · rw [if_neg c_2] at h
    cases h
    exact zo_ret d_Mo_must_35 (Nat.le_of_ble_eq_true rfl) (Nat.le_of_ble_eq_true rfl) rfl
  · rw [if_pos c_2] at h
    refine zi_aload_n 0 d_Mo_must_31 rfl ?_
    obtain ⟨q_3, eq_3, h⟩ := zbind h
    refine zo_virt (k' := 0) (n' := 0) 35 [] [] [] zkd_11 (zgI_s ev_1).1 (C_Mo_next n E S a0 M q_3 eq_3) d_Mo_must_32 tw_1579 tw_1576 tw_1578 ts_56 tw_13 dd_Mo_next ⟨Nat.le_of_ble_eq_true rfl, Nat.le_of_ble_eq_true rfl, Nat.le_of_ble_eq_true rfl, Nat.le_of_ble_eq_true rfl⟩ (Nat.le_of_ble_eq_true rfl) rfl rfl rfl rfl ?_
    cases h
    exact zo_ret d_Mo_must_35 (Nat.le_of_ble_eq_true rfl) (Nat.le_of_ble_eq_true rfl) rfl
theorem K_Mo_must (n : Nat) (E : zE) (S : zS) (a0 : Nat) (x1 : Int32) (M : zH) (M' : zH)  (h : F_Mo_must n E S a0 x1 M = some M') : zG E Y_Mo_must (none, S, M') 0 [(0, .ref a0), (1, .int x1)] [] S M 0 0 := by
  unfold F_Mo_must at h
  refine zi_aload_n 0 d_Mo_must_0 rfl ?_
  obtain ⟨v_4, ev_4, h⟩ := zbind h
  refine zo_getI 4 zkd_11 19 d_Mo_must_1 ev_4 rfl tw_1250 rfl ?_
  refine zi_if_ne (tgt := 24) d_Mo_must_4 rfl (fun c_5 => ?_) (fun c_5 => ?_)
  · rw [if_neg c_5] at h
    refine zi_lo [(0, .ref a0)] [0] rfl ?_
    exact K_Mo_must_b24 n E S a0 M M'  h
  · rw [if_pos c_5] at h
    refine zi_iload_n 1 d_Mo_must_7 rfl ?_
    refine zi_if_ne (tgt := 24) d_Mo_must_8 rfl (fun c_6 => ?_) (fun c_6 => ?_)
    · rw [if_neg c_6] at h
      refine zi_lo [(0, .ref a0)] [0] rfl ?_
      exact K_Mo_must_b24 n E S a0 M M'  h
    · rw [if_pos c_6] at h
      refine zi_aload_n 0 d_Mo_must_11 rfl ?_
      refine zi_iconst 1 d_Mo_must_12 rfl ?_
      obtain ⟨m_7, em_7, h⟩ := zbind h
      refine zo_putZ 16 zkd_11 19 d_Mo_must_13 em_7 rfl rfl rfl tw_1250 rfl ?_
      refine zi_aload_n 0 d_Mo_must_16 rfl ?_
      refine zi_aload_n 0 d_Mo_must_17 rfl ?_
      obtain ⟨v_8, ev_8, h⟩ := zbind h
      refine zo_getI 21 zkd_11 14 d_Mo_must_18 ev_8 rfl tw_1245 rfl ?_
      obtain ⟨m_9, em_9, h⟩ := zbind h
      refine zo_putI 24 zkd_11 18 d_Mo_must_21 em_9 rfl rfl rfl tw_1249 rfl ?_
      refine zi_lo [(0, .ref a0)] [0] rfl ?_
      exact K_Mo_must_b24 n E S a0 m_9 M'  h
theorem C_Mo_must (n : Nat) (E : zE) (S : zS) (a0 : Nat) (x1 : Int32) (M : zH) (M' : zH) (h : F_Mo_must n E S a0 x1 M = some M') : zC E Y_Mo_must [.ref a0, .int x1] S M (none, S, M') :=
  zC.of (Or.inl (show plainName "NightColanderModel" = true by decide)) (Nat.le_of_ble_eq_true rfl) (trivial) (K_Mo_must n E S a0 x1 M M' h)
theorem d_Mo_endText_0 : decode (yB Y_Mo_endText) 0 = .ok (.aload_n 0, 1) := by decide +kernel
theorem d_Mo_endText_1 : decode (yB Y_Mo_endText) 1 = .ok (.getfield 256, 3) := by decide +kernel
theorem d_Mo_endText_4 : decode (yB Y_Mo_endText) 4 = .ok (.ifCond .ne 15, 3) := by decide +kernel
theorem d_Mo_endText_7 : decode (yB Y_Mo_endText) 7 = .ok (.aload_n 0, 1) := by decide +kernel
theorem d_Mo_endText_8 : decode (yB Y_Mo_endText) 8 = .ok (.getfield 276, 3) := by decide +kernel
theorem d_Mo_endText_11 : decode (yB Y_Mo_endText) 11 = .ok (.ifCond .eq 8, 3) := by decide +kernel
theorem d_Mo_endText_14 : decode (yB Y_Mo_endText) 14 = .ok (.aload_n 0, 1) := by decide +kernel
theorem d_Mo_endText_15 : decode (yB Y_Mo_endText) 15 = .ok (.iconst 0, 1) := by decide +kernel
theorem d_Mo_endText_16 : decode (yB Y_Mo_endText) 16 = .ok (.invokevirtual 287, 3) := by decide +kernel
theorem d_Mo_endText_19 : decode (yB Y_Mo_endText) 19 = .ok (.aload_n 0, 1) := by decide +kernel
theorem d_Mo_endText_20 : decode (yB Y_Mo_endText) 20 = .ok (.iconst 0, 1) := by decide +kernel
theorem d_Mo_endText_21 : decode (yB Y_Mo_endText) 21 = .ok (.putfield 331, 3) := by decide +kernel
theorem d_Mo_endText_24 : decode (yB Y_Mo_endText) 24 = .ok (.aload_n 0, 1) := by decide +kernel
theorem d_Mo_endText_25 : decode (yB Y_Mo_endText) 25 = .ok (.iconst 0, 1) := by decide +kernel
theorem d_Mo_endText_26 : decode (yB Y_Mo_endText) 26 = .ok (.putfield 244, 3) := by decide +kernel
theorem d_Mo_endText_29 : decode (yB Y_Mo_endText) 29 = .ok (.return_, 1) := by decide +kernel
def F_Mo_endText_b19 (n : Nat) (E : zE) (S : zS) (a0 : Nat) (M : zH) : Option (zH) :=
  (zpZ S M a0 11 20 0).bind fun m_1 =>
  (zpI S m_1 a0 11 13 0).bind fun m_2 =>
  some (m_2)
def F_Mo_endText (n : Nat) (E : zE) (S : zS) (a0 : Nat) (M : zH) : Option (zH) :=
  (zgI S M a0 11 19).bind fun v_3 =>
  if v_3 = 0 then
    (zgI S M a0 11 16).bind fun v_5 =>
    if v_5 = 0 then
      F_Mo_endText_b19 n E S a0 M
    else
      (F_Mo_must n E S a0 0 M).bind fun q_7 =>
      F_Mo_endText_b19 n E S a0 q_7
  else
    F_Mo_endText_b19 n E S a0 M
theorem K_Mo_endText_b19 (n : Nat) (E : zE) (S : zS) (a0 : Nat) (M : zH) (M' : zH)  (h : F_Mo_endText_b19 n E S a0 M = some M') : zG E Y_Mo_endText (none, S, M') 19 [(0, .ref a0)] [] S M 0 0 := by
  unfold F_Mo_endText_b19 at h
  refine zi_aload_n 0 d_Mo_endText_19 rfl ?_
  refine zi_iconst 0 d_Mo_endText_20 rfl ?_
  obtain ⟨m_1, em_1, h⟩ := zbind h
  refine zo_putZ 24 zkd_11 20 d_Mo_endText_21 em_1 rfl rfl rfl tw_1251 rfl ?_
  refine zi_aload_n 0 d_Mo_endText_24 rfl ?_
  refine zi_iconst 0 d_Mo_endText_25 rfl ?_
  obtain ⟨m_2, em_2, h⟩ := zbind h
  refine zo_putI 29 zkd_11 13 d_Mo_endText_26 em_2 rfl rfl rfl tw_1244 rfl ?_
  cases h
  exact zo_ret d_Mo_endText_29 (Nat.le_of_ble_eq_true rfl) (Nat.le_of_ble_eq_true rfl) rfl
theorem K_Mo_endText (n : Nat) (E : zE) (S : zS) (a0 : Nat) (M : zH) (M' : zH)  (h : F_Mo_endText n E S a0 M = some M') : zG E Y_Mo_endText (none, S, M') 0 [(0, .ref a0)] [] S M 0 0 := by
  unfold F_Mo_endText at h
  refine zi_aload_n 0 d_Mo_endText_0 rfl ?_
  obtain ⟨v_3, ev_3, h⟩ := zbind h
  refine zo_getI 4 zkd_11 19 d_Mo_endText_1 ev_3 rfl tw_1250 rfl ?_
  refine zi_if_ne (tgt := 19) d_Mo_endText_4 rfl (fun c_4 => ?_) (fun c_4 => ?_)
  · rw [if_neg c_4] at h
    refine zi_lo [(0, .ref a0)] [0] rfl ?_
    exact K_Mo_endText_b19 n E S a0 M M'  h
  · rw [if_pos c_4] at h
    refine zi_aload_n 0 d_Mo_endText_7 rfl ?_
    obtain ⟨v_5, ev_5, h⟩ := zbind h
    refine zo_getI 11 zkd_11 16 d_Mo_endText_8 ev_5 rfl tw_1247 rfl ?_
    refine zi_if_eq (tgt := 19) d_Mo_endText_11 rfl (fun c_6 => ?_) (fun c_6 => ?_)
    · rw [if_pos c_6] at h
      refine zi_lo [(0, .ref a0)] [0] rfl ?_
      exact K_Mo_endText_b19 n E S a0 M M'  h
    · rw [if_neg c_6] at h
      refine zi_aload_n 0 d_Mo_endText_14 rfl ?_
      refine zi_iconst 0 d_Mo_endText_15 rfl ?_
      obtain ⟨q_7, eq_7, h⟩ := zbind h
      refine zo_virt (k' := 0) (n' := 0) 19 [.int 0] [] [] zkd_11 (zgI_s ev_3).1 (C_Mo_must n E S a0 0 M q_7 eq_7) d_Mo_endText_16 tw_1601 tw_1598 tw_1600 ts_59 tw_13 dd_Mo_must ⟨Nat.le_of_ble_eq_true rfl, Nat.le_of_ble_eq_true rfl, Nat.le_of_ble_eq_true rfl, Nat.le_of_ble_eq_true rfl⟩ (Nat.le_of_ble_eq_true rfl) rfl rfl rfl rfl ?_
      refine zi_lo [(0, .ref a0)] [0] rfl ?_
      exact K_Mo_endText_b19 n E S a0 q_7 M'  h
theorem C_Mo_endText (n : Nat) (E : zE) (S : zS) (a0 : Nat) (M : zH) (M' : zH) (h : F_Mo_endText n E S a0 M = some M') : zC E Y_Mo_endText [.ref a0] S M (none, S, M') :=
  zC.of (Or.inl (show plainName "NightColanderModel" = true by decide)) (Nat.le_of_ble_eq_true rfl) (trivial) (K_Mo_endText n E S a0 M M' h)
theorem d_Mo_isSign_0 : decode (yB Y_Mo_isSign) 0 = .ok (.aload_n 0, 1) := by decide +kernel
theorem d_Mo_isSign_1 : decode (yB Y_Mo_isSign) 1 = .ok (.getfield 276, 3) := by decide +kernel
theorem d_Mo_isSign_4 : decode (yB Y_Mo_isSign) 4 = .ok (.iconst 3, 1) := by decide +kernel
theorem d_Mo_isSign_5 : decode (yB Y_Mo_isSign) 5 = .ok (.if_icmp .ne 17, 3) := by decide +kernel
theorem d_Mo_isSign_8 : decode (yB Y_Mo_isSign) 8 = .ok (.aload_n 0, 1) := by decide +kernel
theorem d_Mo_isSign_9 : decode (yB Y_Mo_isSign) 9 = .ok (.getfield 266, 3) := by decide +kernel
theorem d_Mo_isSign_12 : decode (yB Y_Mo_isSign) 12 = .ok (.iload_n 1, 1) := by decide +kernel
theorem d_Mo_isSign_13 : decode (yB Y_Mo_isSign) 13 = .ok (.i2l, 1) := by decide +kernel
theorem d_Mo_isSign_14 : decode (yB Y_Mo_isSign) 14 = .ok (.lcmp, 1) := by decide +kernel
theorem d_Mo_isSign_15 : decode (yB Y_Mo_isSign) 15 = .ok (.ifCond .ne 7, 3) := by decide +kernel
theorem d_Mo_isSign_18 : decode (yB Y_Mo_isSign) 18 = .ok (.iconst 1, 1) := by decide +kernel
theorem d_Mo_isSign_19 : decode (yB Y_Mo_isSign) 19 = .ok (.goto 4, 3) := by decide +kernel
theorem d_Mo_isSign_22 : decode (yB Y_Mo_isSign) 22 = .ok (.iconst 0, 1) := by decide +kernel
theorem d_Mo_isSign_23 : decode (yB Y_Mo_isSign) 23 = .ok (.ireturn, 1) := by decide +kernel
def F_Mo_isSign (n : Nat) (E : zE) (S : zS) (a0 : Nat) (x1 : Int32) (M : zH) : Option (Bool × zH) :=
  (zgI S M a0 11 16).bind fun v_1 =>
  if v_1 = 3 then
    (zgJ S M a0 11 17).bind fun v_3 =>
    if v_3 = x1.toInt64 then
      some (true, M)
    else
      some (false, M)
  else
    some (false, M)
theorem K_Mo_isSign (n : Nat) (E : zE) (S : zS) (a0 : Nat) (x1 : Int32) (M : zH) (r : Bool) (M' : zH)  (h : F_Mo_isSign n E S a0 x1 M = some (r, M')) : zG E Y_Mo_isSign (some (.int (bI r)), S, M') 0 [(0, .ref a0), (1, .int x1)] [] S M 0 0 := by
  unfold F_Mo_isSign at h
  refine zi_aload_n 0 d_Mo_isSign_0 rfl ?_
  obtain ⟨v_1, ev_1, h⟩ := zbind h
  refine zo_getI 4 zkd_11 16 d_Mo_isSign_1 ev_1 rfl tw_1247 rfl ?_
  refine zi_iconst 3 d_Mo_isSign_4 rfl ?_
  refine zi_icmp_ne (tgt := 22) d_Mo_isSign_5 rfl (fun c_2 => ?_) (fun c_2 => ?_)
  · rw [if_neg c_2] at h
    refine zi_iconst 0 d_Mo_isSign_22 rfl ?_
    cases h
    exact zo_retB d_Mo_isSign_23 (Nat.le_of_ble_eq_true rfl) (Nat.le_of_ble_eq_true rfl) rfl
  · rw [if_pos c_2] at h
    refine zi_aload_n 0 d_Mo_isSign_8 rfl ?_
    obtain ⟨v_3, ev_3, h⟩ := zbind h
    refine zo_getJ 12 zkd_11 17 d_Mo_isSign_9 ev_3 rfl tw_1248 rfl ?_
    refine zi_iload_n 1 d_Mo_isSign_12 rfl ?_
    refine zi_i2l d_Mo_isSign_13 ?_
    refine zo_lc_ne d_Mo_isSign_14 d_Mo_isSign_15 rfl 18 rfl (fun c_4 => ?_) (fun c_4 => ?_)
    · rw [if_neg c_4] at h
      refine zi_iconst 0 d_Mo_isSign_22 rfl ?_
      cases h
      exact zo_retB d_Mo_isSign_23 (Nat.le_of_ble_eq_true rfl) (Nat.le_of_ble_eq_true rfl) rfl
    · rw [if_pos c_4] at h
      refine zi_iconst 1 d_Mo_isSign_18 rfl ?_
      refine zi_goto (tgt := 23) d_Mo_isSign_19 rfl ?_
      cases h
      exact zo_retB d_Mo_isSign_23 (Nat.le_of_ble_eq_true rfl) (Nat.le_of_ble_eq_true rfl) rfl
theorem C_Mo_isSign (n : Nat) (E : zE) (S : zS) (a0 : Nat) (x1 : Int32) (M : zH) (r : Bool) (M' : zH) (h : F_Mo_isSign n E S a0 x1 M = some (r, M')) : zC E Y_Mo_isSign [.ref a0, .int x1] S M (some (.int (bI r)), S, M') :=
  zC.of (Or.inl (show plainName "NightColanderModel" = true by decide)) (Nat.le_of_ble_eq_true rfl) (bI_nar r) (K_Mo_isSign n E S a0 x1 M r M' h)
theorem d_Mo_isWord_0 : decode (yB Y_Mo_isWord) 0 = .ok (.aload_n 0, 1) := by decide +kernel
theorem d_Mo_isWord_1 : decode (yB Y_Mo_isWord) 1 = .ok (.getfield 276, 3) := by decide +kernel
theorem d_Mo_isWord_4 : decode (yB Y_Mo_isWord) 4 = .ok (.iconst 1, 1) := by decide +kernel
theorem d_Mo_isWord_5 : decode (yB Y_Mo_isWord) 5 = .ok (.if_icmp .ne 16, 3) := by decide +kernel
theorem d_Mo_isWord_8 : decode (yB Y_Mo_isWord) 8 = .ok (.aload_n 0, 1) := by decide +kernel
theorem d_Mo_isWord_9 : decode (yB Y_Mo_isWord) 9 = .ok (.getfield 266, 3) := by decide +kernel
theorem d_Mo_isWord_12 : decode (yB Y_Mo_isWord) 12 = .ok (.lload_n 1, 1) := by decide +kernel
theorem d_Mo_isWord_13 : decode (yB Y_Mo_isWord) 13 = .ok (.lcmp, 1) := by decide +kernel
theorem d_Mo_isWord_14 : decode (yB Y_Mo_isWord) 14 = .ok (.ifCond .ne 7, 3) := by decide +kernel
theorem d_Mo_isWord_17 : decode (yB Y_Mo_isWord) 17 = .ok (.iconst 1, 1) := by decide +kernel
theorem d_Mo_isWord_18 : decode (yB Y_Mo_isWord) 18 = .ok (.goto 4, 3) := by decide +kernel
theorem d_Mo_isWord_21 : decode (yB Y_Mo_isWord) 21 = .ok (.iconst 0, 1) := by decide +kernel
theorem d_Mo_isWord_22 : decode (yB Y_Mo_isWord) 22 = .ok (.ireturn, 1) := by decide +kernel
def F_Mo_isWord (n : Nat) (E : zE) (S : zS) (a0 : Nat) (y1 : Int64) (M : zH) : Option (Bool × zH) :=
  (zgI S M a0 11 16).bind fun v_1 =>
  if v_1 = 1 then
    (zgJ S M a0 11 17).bind fun v_3 =>
    if v_3 = y1 then
      some (true, M)
    else
      some (false, M)
  else
    some (false, M)
theorem K_Mo_isWord (n : Nat) (E : zE) (S : zS) (a0 : Nat) (y1 : Int64) (M : zH) (r : Bool) (M' : zH)  (h : F_Mo_isWord n E S a0 y1 M = some (r, M')) : zG E Y_Mo_isWord (some (.int (bI r)), S, M') 0 [(0, .ref a0), (1, .long y1)] [] S M 0 0 := by
  unfold F_Mo_isWord at h
  refine zi_aload_n 0 d_Mo_isWord_0 rfl ?_
  obtain ⟨v_1, ev_1, h⟩ := zbind h
  refine zo_getI 4 zkd_11 16 d_Mo_isWord_1 ev_1 rfl tw_1247 rfl ?_
  refine zi_iconst 1 d_Mo_isWord_4 rfl ?_
  refine zi_icmp_ne (tgt := 21) d_Mo_isWord_5 rfl (fun c_2 => ?_) (fun c_2 => ?_)
  · rw [if_neg c_2] at h
    refine zi_iconst 0 d_Mo_isWord_21 rfl ?_
    cases h
    exact zo_retB d_Mo_isWord_22 (Nat.le_of_ble_eq_true rfl) (Nat.le_of_ble_eq_true rfl) rfl
  · rw [if_pos c_2] at h
    refine zi_aload_n 0 d_Mo_isWord_8 rfl ?_
    obtain ⟨v_3, ev_3, h⟩ := zbind h
    refine zo_getJ 12 zkd_11 17 d_Mo_isWord_9 ev_3 rfl tw_1248 rfl ?_
    refine zi_lload_n 1 d_Mo_isWord_12 rfl ?_
    refine zo_lc_ne d_Mo_isWord_13 d_Mo_isWord_14 rfl 17 rfl (fun c_4 => ?_) (fun c_4 => ?_)
    · rw [if_neg c_4] at h
      refine zi_iconst 0 d_Mo_isWord_21 rfl ?_
      cases h
      exact zo_retB d_Mo_isWord_22 (Nat.le_of_ble_eq_true rfl) (Nat.le_of_ble_eq_true rfl) rfl
    · rw [if_pos c_4] at h
      refine zi_iconst 1 d_Mo_isWord_17 rfl ?_
      refine zi_goto (tgt := 22) d_Mo_isWord_18 rfl ?_
      cases h
      exact zo_retB d_Mo_isWord_22 (Nat.le_of_ble_eq_true rfl) (Nat.le_of_ble_eq_true rfl) rfl
theorem C_Mo_isWord (n : Nat) (E : zE) (S : zS) (a0 : Nat) (y1 : Int64) (M : zH) (r : Bool) (M' : zH) (h : F_Mo_isWord n E S a0 y1 M = some (r, M')) : zC E Y_Mo_isWord [.ref a0, .long y1] S M (some (.int (bI r)), S, M') :=
  zC.of (Or.inl (show plainName "NightColanderModel" = true by decide)) (Nat.le_of_ble_eq_true rfl) (bI_nar r) (K_Mo_isWord n E S a0 y1 M r M' h)
theorem d_Mo_binds_0 : decode (yB Y_Mo_binds) 0 = .ok (.iload_n 0, 1) := by decide +kernel
theorem d_Mo_binds_1 : decode (yB Y_Mo_binds) 1 = .ok (.bipush 31, 2) := by decide +kernel
theorem d_Mo_binds_3 : decode (yB Y_Mo_binds) 3 = .ok (.if_icmp .lt 7, 3) := by decide +kernel
theorem d_Mo_binds_6 : decode (yB Y_Mo_binds) 6 = .ok (.iconst 0, 1) := by decide +kernel
theorem d_Mo_binds_7 : decode (yB Y_Mo_binds) 7 = .ok (.goto 55, 3) := by decide +kernel
theorem d_Mo_binds_10 : decode (yB Y_Mo_binds) 10 = .ok (.iload_n 0, 1) := by decide +kernel
theorem d_Mo_binds_11 : decode (yB Y_Mo_binds) 11 = .ok (.bipush 30, 2) := by decide +kernel
theorem d_Mo_binds_13 : decode (yB Y_Mo_binds) 13 = .ok (.if_icmp .ne 7, 3) := by decide +kernel
theorem d_Mo_binds_16 : decode (yB Y_Mo_binds) 16 = .ok (.iconst 1, 1) := by decide +kernel
theorem d_Mo_binds_17 : decode (yB Y_Mo_binds) 17 = .ok (.goto 45, 3) := by decide +kernel
theorem d_Mo_binds_20 : decode (yB Y_Mo_binds) 20 = .ok (.iload_n 0, 1) := by decide +kernel
theorem d_Mo_binds_21 : decode (yB Y_Mo_binds) 21 = .ok (.bipush 29, 2) := by decide +kernel
theorem d_Mo_binds_23 : decode (yB Y_Mo_binds) 23 = .ok (.if_icmp .ne 7, 3) := by decide +kernel
theorem d_Mo_binds_26 : decode (yB Y_Mo_binds) 26 = .ok (.iconst 2, 1) := by decide +kernel
theorem d_Mo_binds_27 : decode (yB Y_Mo_binds) 27 = .ok (.goto 35, 3) := by decide +kernel
theorem d_Mo_binds_30 : decode (yB Y_Mo_binds) 30 = .ok (.iload_n 0, 1) := by decide +kernel
theorem d_Mo_binds_31 : decode (yB Y_Mo_binds) 31 = .ok (.bipush 28, 2) := by decide +kernel
theorem d_Mo_binds_33 : decode (yB Y_Mo_binds) 33 = .ok (.if_icmp .ne 7, 3) := by decide +kernel
theorem d_Mo_binds_36 : decode (yB Y_Mo_binds) 36 = .ok (.iconst 3, 1) := by decide +kernel
theorem d_Mo_binds_37 : decode (yB Y_Mo_binds) 37 = .ok (.goto 25, 3) := by decide +kernel
theorem d_Mo_binds_40 : decode (yB Y_Mo_binds) 40 = .ok (.iload_n 0, 1) := by decide +kernel
theorem d_Mo_binds_41 : decode (yB Y_Mo_binds) 41 = .ok (.bipush 25, 2) := by decide +kernel
theorem d_Mo_binds_43 : decode (yB Y_Mo_binds) 43 = .ok (.if_icmp .lt 7, 3) := by decide +kernel
theorem d_Mo_binds_46 : decode (yB Y_Mo_binds) 46 = .ok (.iconst 4, 1) := by decide +kernel
theorem d_Mo_binds_47 : decode (yB Y_Mo_binds) 47 = .ok (.goto 15, 3) := by decide +kernel
theorem d_Mo_binds_50 : decode (yB Y_Mo_binds) 50 = .ok (.iload_n 0, 1) := by decide +kernel
theorem d_Mo_binds_51 : decode (yB Y_Mo_binds) 51 = .ok (.bipush 22, 2) := by decide +kernel
theorem d_Mo_binds_53 : decode (yB Y_Mo_binds) 53 = .ok (.if_icmp .lt 8, 3) := by decide +kernel
theorem d_Mo_binds_56 : decode (yB Y_Mo_binds) 56 = .ok (.bipush 6, 2) := by decide +kernel
theorem d_Mo_binds_58 : decode (yB Y_Mo_binds) 58 = .ok (.goto 4, 3) := by decide +kernel
theorem d_Mo_binds_61 : decode (yB Y_Mo_binds) 61 = .ok (.iconst 5, 1) := by decide +kernel
theorem d_Mo_binds_62 : decode (yB Y_Mo_binds) 62 = .ok (.ireturn, 1) := by decide +kernel
def F_Mo_binds (n : Nat) (E : zE) (S : zS) (x0 : Int32) (M : zH) : Option (Int32 × zH) :=
  if x0 < 31 then
    if x0 = 30 then
      some (1, M)
    else
      if x0 = 29 then
        some (2, M)
      else
        if x0 = 28 then
          some (3, M)
        else
          if x0 < 25 then
            if x0 < 22 then
              some (5, M)
            else
              some (6, M)
          else
            some (4, M)
  else
    some (0, M)
theorem K_Mo_binds (n : Nat) (E : zE) (S : zS) (x0 : Int32) (M : zH) (r : Int32) (M' : zH)  (h : F_Mo_binds n E S x0 M = some (r, M')) : zG E Y_Mo_binds (some (.int r), S, M') 0 [(0, .int x0)] [] S M 0 0 := by
  unfold F_Mo_binds at h
  refine zi_iload_n 0 d_Mo_binds_0 rfl ?_
  refine zi_bipush 31 d_Mo_binds_1 rfl ?_
  refine zi_icmp_lt (tgt := 10) d_Mo_binds_3 rfl (fun c_1 => ?_) (fun c_1 => ?_)
  · rw [if_pos c_1] at h
    refine zi_iload_n 0 d_Mo_binds_10 rfl ?_
    refine zi_bipush 30 d_Mo_binds_11 rfl ?_
    refine zi_icmp_ne (tgt := 20) d_Mo_binds_13 rfl (fun c_2 => ?_) (fun c_2 => ?_)
    · rw [if_neg c_2] at h
      refine zi_iload_n 0 d_Mo_binds_20 rfl ?_
      refine zi_bipush 29 d_Mo_binds_21 rfl ?_
      refine zi_icmp_ne (tgt := 30) d_Mo_binds_23 rfl (fun c_3 => ?_) (fun c_3 => ?_)
      · rw [if_neg c_3] at h
        refine zi_iload_n 0 d_Mo_binds_30 rfl ?_
        refine zi_bipush 28 d_Mo_binds_31 rfl ?_
        refine zi_icmp_ne (tgt := 40) d_Mo_binds_33 rfl (fun c_4 => ?_) (fun c_4 => ?_)
        · rw [if_neg c_4] at h
          refine zi_iload_n 0 d_Mo_binds_40 rfl ?_
          refine zi_bipush 25 d_Mo_binds_41 rfl ?_
          refine zi_icmp_lt (tgt := 50) d_Mo_binds_43 rfl (fun c_5 => ?_) (fun c_5 => ?_)
          · rw [if_pos c_5] at h
            refine zi_iload_n 0 d_Mo_binds_50 rfl ?_
            refine zi_bipush 22 d_Mo_binds_51 rfl ?_
            refine zi_icmp_lt (tgt := 61) d_Mo_binds_53 rfl (fun c_6 => ?_) (fun c_6 => ?_)
            · rw [if_pos c_6] at h
              refine zi_iconst 5 d_Mo_binds_61 rfl ?_
              cases h
              exact zo_ret d_Mo_binds_62 (Nat.le_of_ble_eq_true rfl) (Nat.le_of_ble_eq_true rfl) rfl
            · rw [if_neg c_6] at h
              refine zi_bipush 6 d_Mo_binds_56 rfl ?_
              refine zi_goto (tgt := 62) d_Mo_binds_58 rfl ?_
              cases h
              exact zo_ret d_Mo_binds_62 (Nat.le_of_ble_eq_true rfl) (Nat.le_of_ble_eq_true rfl) rfl
          · rw [if_neg c_5] at h
            refine zi_iconst 4 d_Mo_binds_46 rfl ?_
            refine zi_goto (tgt := 62) d_Mo_binds_47 rfl ?_
            cases h
            exact zo_ret d_Mo_binds_62 (Nat.le_of_ble_eq_true rfl) (Nat.le_of_ble_eq_true rfl) rfl
        · rw [if_pos c_4] at h
          refine zi_iconst 3 d_Mo_binds_36 rfl ?_
          refine zi_goto (tgt := 62) d_Mo_binds_37 rfl ?_
          cases h
          exact zo_ret d_Mo_binds_62 (Nat.le_of_ble_eq_true rfl) (Nat.le_of_ble_eq_true rfl) rfl
      · rw [if_pos c_3] at h
        refine zi_iconst 2 d_Mo_binds_26 rfl ?_
        refine zi_goto (tgt := 62) d_Mo_binds_27 rfl ?_
        cases h
        exact zo_ret d_Mo_binds_62 (Nat.le_of_ble_eq_true rfl) (Nat.le_of_ble_eq_true rfl) rfl
    · rw [if_pos c_2] at h
      refine zi_iconst 1 d_Mo_binds_16 rfl ?_
      refine zi_goto (tgt := 62) d_Mo_binds_17 rfl ?_
      cases h
      exact zo_ret d_Mo_binds_62 (Nat.le_of_ble_eq_true rfl) (Nat.le_of_ble_eq_true rfl) rfl
  · rw [if_neg c_1] at h
    refine zi_iconst 0 d_Mo_binds_6 rfl ?_
    refine zi_goto (tgt := 62) d_Mo_binds_7 rfl ?_
    cases h
    exact zo_ret d_Mo_binds_62 (Nat.le_of_ble_eq_true rfl) (Nat.le_of_ble_eq_true rfl) rfl
theorem C_Mo_binds (n : Nat) (E : zE) (S : zS) (x0 : Int32) (M : zH) (r : Int32) (M' : zH) (h : F_Mo_binds n E S x0 M = some (r, M')) : zC E Y_Mo_binds [.int x0] S M (some (.int r), S, M') :=
  zC.of (Or.inl (show plainName "NightColanderModel" = true by decide)) (Nat.le_of_ble_eq_true rfl) (trivial) (K_Mo_binds n E S x0 M r M' h)
theorem d_Mo_inner_0 : decode (yB Y_Mo_inner) 0 = .ok (.iconst (-1), 1) := by decide +kernel
theorem d_Mo_inner_1 : decode (yB Y_Mo_inner) 1 = .ok (.istore_n 1, 1) := by decide +kernel
theorem d_Mo_inner_2 : decode (yB Y_Mo_inner) 2 = .ok (.iconst 0, 1) := by decide +kernel
theorem d_Mo_inner_3 : decode (yB Y_Mo_inner) 3 = .ok (.istore_n 2, 1) := by decide +kernel
theorem d_Mo_inner_4 : decode (yB Y_Mo_inner) 4 = .ok (.iload_n 2, 1) := by decide +kernel
theorem d_Mo_inner_5 : decode (yB Y_Mo_inner) 5 = .ok (.aload_n 0, 1) := by decide +kernel
theorem d_Mo_inner_6 : decode (yB Y_Mo_inner) 6 = .ok (.getfield 294, 3) := by decide +kernel
theorem d_Mo_inner_9 : decode (yB Y_Mo_inner) 9 = .ok (.if_icmp .ge 31, 3) := by decide +kernel
theorem d_Mo_inner_12 : decode (yB Y_Mo_inner) 12 = .ok (.aload_n 0, 1) := by decide +kernel
theorem d_Mo_inner_13 : decode (yB Y_Mo_inner) 13 = .ok (.getfield 51, 3) := by decide +kernel
theorem d_Mo_inner_16 : decode (yB Y_Mo_inner) 16 = .ok (.iload_n 2, 1) := by decide +kernel
theorem d_Mo_inner_17 : decode (yB Y_Mo_inner) 17 = .ok (.iaload, 1) := by decide +kernel
theorem d_Mo_inner_18 : decode (yB Y_Mo_inner) 18 = .ok (.bipush 31, 2) := by decide +kernel
theorem d_Mo_inner_20 : decode (yB Y_Mo_inner) 20 = .ok (.if_icmp .lt 12, 3) := by decide +kernel
theorem d_Mo_inner_23 : decode (yB Y_Mo_inner) 23 = .ok (.aload_n 0, 1) := by decide +kernel
theorem d_Mo_inner_24 : decode (yB Y_Mo_inner) 24 = .ok (.getfield 51, 3) := by decide +kernel
theorem d_Mo_inner_27 : decode (yB Y_Mo_inner) 27 = .ok (.iload_n 2, 1) := by decide +kernel
theorem d_Mo_inner_28 : decode (yB Y_Mo_inner) 28 = .ok (.iaload, 1) := by decide +kernel
theorem d_Mo_inner_29 : decode (yB Y_Mo_inner) 29 = .ok (.goto 4, 3) := by decide +kernel
theorem d_Mo_inner_32 : decode (yB Y_Mo_inner) 32 = .ok (.iload_n 1, 1) := by decide +kernel
theorem d_Mo_inner_33 : decode (yB Y_Mo_inner) 33 = .ok (.istore_n 1, 1) := by decide +kernel
theorem d_Mo_inner_34 : decode (yB Y_Mo_inner) 34 = .ok (.iinc 2 1, 3) := by decide +kernel
theorem d_Mo_inner_37 : decode (yB Y_Mo_inner) 37 = .ok (.goto (-33), 3) := by decide +kernel
theorem d_Mo_inner_40 : decode (yB Y_Mo_inner) 40 = .ok (.iload_n 1, 1) := by decide +kernel
theorem d_Mo_inner_41 : decode (yB Y_Mo_inner) 41 = .ok (.ireturn, 1) := by decide +kernel
def F_Mo_inner_b33 (n : Nat) (E : zE) (S : zS) (r4 : Nat × Int32 × Int32 × zH → Option (Int32 × zH)) (a0 : Nat) (x2 : Int32) (s0 : Int32) (M : zH) : Option (Int32 × zH) :=
  r4 (a0, s0, x2 + 1, M)
def F_Mo_inner_L4 (n : Nat) (E : zE) (S : zS) (r4 : Nat × Int32 × Int32 × zH → Option (Int32 × zH)) (a0 : Nat) (x1 : Int32) (x2 : Int32) (M : zH) : Option (Int32 × zH) :=
  (zgI S M a0 11 29).bind fun v_1 =>
  if v_1 ≤ x2 then
    some (x1, M)
  else
    (zgR S a0 11 27).bind fun b_3 =>
    (zldI S M b_3 x2).bind fun v_4 =>
    if v_4 < 31 then
      F_Mo_inner_b33 n E S r4 a0 x2 x1 M
    else
      (zldI S M b_3 x2).bind fun v_6 =>
      F_Mo_inner_b33 n E S r4 a0 x2 v_6 M
def F_Mo_inner_b4 (n : Nat) (E : zE) (S : zS) : Nat × Int32 × Int32 × zH → Option (Int32 × zH) := zfix (fun r4 s => F_Mo_inner_L4 n E S r4 s.1 s.2.1 s.2.2.1 s.2.2.2) n
def F_Mo_inner (n : Nat) (E : zE) (S : zS) (a0 : Nat) (M : zH) : Option (Int32 × zH) :=
  F_Mo_inner_b4 n E S (a0, (-1), 0, M)
theorem K_Mo_inner_b33 (n : Nat) (E : zE) (S : zS) (r4 : Nat × Int32 × Int32 × zH → Option (Int32 × zH)) (a0 : Nat) (x2 : Int32) (s0 : Int32) (M : zH) (r : Int32) (M' : zH) (hr4 : ∀ (a0 : Nat) (x1 : Int32) (x2 : Int32) (M : zH), r4 (a0, x1, x2, M) = some (r, M') → zG E Y_Mo_inner (some (.int r), S, M') 4 [(0, .ref a0), (1, .int x1), (2, .int x2)] [] S M 0 0) (h : F_Mo_inner_b33 n E S r4 a0 x2 s0 M = some (r, M')) : zG E Y_Mo_inner (some (.int r), S, M') 33 [(0, .ref a0), (2, .int x2)] [.int s0] S M 0 0 := by
  unfold F_Mo_inner_b33 at h
  refine zi_istore_n [(1, .int s0), (0, .ref a0), (2, .int x2)] d_Mo_inner_33 (by decide) rfl ?_
  refine zi_iinc 2 (x2 + 1) [(2, .int (x2 + 1)), (1, .int s0), (0, .ref a0)] d_Mo_inner_34 rfl rfl (by decide) rfl ?_
  refine zi_goto (tgt := 4) d_Mo_inner_37 rfl ?_
  refine zi_lo [(0, .ref a0), (1, .int s0), (2, .int (x2 + 1))] [2, 1, 0] rfl ?_
  exact hr4 a0 s0 (x2 + 1) M h
theorem K_Mo_inner_L4 (n : Nat) (E : zE) (S : zS) (r4 : Nat × Int32 × Int32 × zH → Option (Int32 × zH)) (a0 : Nat) (x1 : Int32) (x2 : Int32) (M : zH) (r : Int32) (M' : zH) (hr4 : ∀ (a0 : Nat) (x1 : Int32) (x2 : Int32) (M : zH), r4 (a0, x1, x2, M) = some (r, M') → zG E Y_Mo_inner (some (.int r), S, M') 4 [(0, .ref a0), (1, .int x1), (2, .int x2)] [] S M 0 0) (h : F_Mo_inner_L4 n E S r4 a0 x1 x2 M = some (r, M')) : zG E Y_Mo_inner (some (.int r), S, M') 4 [(0, .ref a0), (1, .int x1), (2, .int x2)] [] S M 0 0 := by
  unfold F_Mo_inner_L4 at h
  refine zi_iload_n 2 d_Mo_inner_4 rfl ?_
  refine zi_aload_n 0 d_Mo_inner_5 rfl ?_
  obtain ⟨v_1, ev_1, h⟩ := zbind h
  refine zo_getI 9 zkd_11 29 d_Mo_inner_6 ev_1 rfl tw_1260 rfl ?_
  refine zi_icmp_ge (tgt := 40) d_Mo_inner_9 rfl (fun c_2 => ?_) (fun c_2 => ?_)
  · rw [if_pos c_2] at h
    refine zi_iload_n 1 d_Mo_inner_40 rfl ?_
    cases h
    exact zo_ret d_Mo_inner_41 (Nat.le_of_ble_eq_true rfl) (Nat.le_of_ble_eq_true rfl) rfl
  · rw [if_neg c_2] at h
    refine zi_aload_n 0 d_Mo_inner_12 rfl ?_
    obtain ⟨b_3, eb_3, h⟩ := zbind h
    refine zo_getR 16 zkd_11 27 d_Mo_inner_13 eb_3 rfl tw_1258 rfl ?_
    refine zi_iload_n 2 d_Mo_inner_16 rfl ?_
    obtain ⟨v_4, ev_4, h⟩ := zbind h
    refine zo_iald 18 d_Mo_inner_17 ev_4 rfl ?_
    refine zi_bipush 31 d_Mo_inner_18 rfl ?_
    refine zi_icmp_lt (tgt := 32) d_Mo_inner_20 rfl (fun c_5 => ?_) (fun c_5 => ?_)
    · rw [if_pos c_5] at h
      refine zi_iload_n 1 d_Mo_inner_32 rfl ?_
      refine zi_lo [(0, .ref a0), (2, .int x2)] [0, 2] rfl ?_
      exact K_Mo_inner_b33 n E S r4 a0 x2 x1 M r M' hr4 h
    · rw [if_neg c_5] at h
      refine zi_aload_n 0 d_Mo_inner_23 rfl ?_
      refine zo_getR 27 zkd_11 27 d_Mo_inner_24 eb_3 rfl tw_1258 rfl ?_
      refine zi_iload_n 2 d_Mo_inner_27 rfl ?_
      obtain ⟨v_6, ev_6, h⟩ := zbind h
      refine zo_iald 29 d_Mo_inner_28 ev_6 rfl ?_
      refine zi_goto (tgt := 33) d_Mo_inner_29 rfl ?_
      refine zi_lo [(0, .ref a0), (2, .int x2)] [0, 2] rfl ?_
      exact K_Mo_inner_b33 n E S r4 a0 x2 v_6 M r M' hr4 h
theorem K_Mo_inner_b4 (n : Nat) (E : zE) (S : zS) (a0 : Nat) (x1 : Int32) (x2 : Int32) (M : zH) (r : Int32) (M' : zH)  (h : F_Mo_inner_b4 n E S (a0, x1, x2, M) = some (r, M')) : zG E Y_Mo_inner (some (.int r), S, M') 4 [(0, .ref a0), (1, .int x1), (2, .int x2)] [] S M 0 0 := by
  have key : ∀ (k : Nat) (a0 : Nat) (x1 : Int32) (x2 : Int32) (M : zH), zfix (fun r4 s => F_Mo_inner_L4 n E S r4 s.1 s.2.1 s.2.2.1 s.2.2.2) k (a0, x1, x2, M) = some (r, M') → zG E Y_Mo_inner (some (.int r), S, M') 4 [(0, .ref a0), (1, .int x1), (2, .int x2)] [] S M 0 0 := by
    intro k
    induction k with
    | zero => intro a0 x1 x2 M h; cases h
    | succ k ih => intro a0 x1 x2 M h; exact K_Mo_inner_L4 n E S _ a0 x1 x2 M r M'  (fun a0 x1 x2 M h => ih a0 x1 x2 M h) h
  exact key n a0 x1 x2 M h
theorem K_Mo_inner (n : Nat) (E : zE) (S : zS) (a0 : Nat) (M : zH) (r : Int32) (M' : zH)  (h : F_Mo_inner n E S a0 M = some (r, M')) : zG E Y_Mo_inner (some (.int r), S, M') 0 [(0, .ref a0)] [] S M 0 0 := by
  unfold F_Mo_inner at h
  refine zi_iconst (-1) d_Mo_inner_0 rfl ?_
  refine zi_istore_n [(1, .int (-1)), (0, .ref a0)] d_Mo_inner_1 (by decide) rfl ?_
  refine zi_iconst 0 d_Mo_inner_2 rfl ?_
  refine zi_istore_n [(2, .int 0), (1, .int (-1)), (0, .ref a0)] d_Mo_inner_3 (by decide) rfl ?_
  refine zi_lo [(0, .ref a0), (1, .int (-1)), (2, .int 0)] [2, 1, 0] rfl ?_
  exact K_Mo_inner_b4 n E S a0 (-1) 0 M r M'  h
theorem C_Mo_inner (n : Nat) (E : zE) (S : zS) (a0 : Nat) (M : zH) (r : Int32) (M' : zH) (h : F_Mo_inner n E S a0 M = some (r, M')) : zC E Y_Mo_inner [.ref a0] S M (some (.int r), S, M') :=
  zC.of (Or.inl (show plainName "NightColanderModel" = true by decide)) (Nat.le_of_ble_eq_true rfl) (trivial) (K_Mo_inner n E S a0 M r M' h)
theorem d_Mo_isCompared_0 : decode (yB Y_Mo_isCompared) 0 = .ok (.aload_n 0, 1) := by decide +kernel
theorem d_Mo_isCompared_1 : decode (yB Y_Mo_isCompared) 1 = .ok (.getfield 294, 3) := by decide +kernel
theorem d_Mo_isCompared_4 : decode (yB Y_Mo_isCompared) 4 = .ok (.iconst 1, 1) := by decide +kernel
theorem d_Mo_isCompared_5 : decode (yB Y_Mo_isCompared) 5 = .ok (.isub, 1) := by decide +kernel
theorem d_Mo_isCompared_6 : decode (yB Y_Mo_isCompared) 6 = .ok (.istore_n 1, 1) := by decide +kernel
theorem d_Mo_isCompared_7 : decode (yB Y_Mo_isCompared) 7 = .ok (.iload_n 1, 1) := by decide +kernel
theorem d_Mo_isCompared_8 : decode (yB Y_Mo_isCompared) 8 = .ok (.ifCond .lt 28, 3) := by decide +kernel
theorem d_Mo_isCompared_11 : decode (yB Y_Mo_isCompared) 11 = .ok (.aload_n 0, 1) := by decide +kernel
theorem d_Mo_isCompared_12 : decode (yB Y_Mo_isCompared) 12 = .ok (.getfield 51, 3) := by decide +kernel
theorem d_Mo_isCompared_15 : decode (yB Y_Mo_isCompared) 15 = .ok (.iload_n 1, 1) := by decide +kernel
theorem d_Mo_isCompared_16 : decode (yB Y_Mo_isCompared) 16 = .ok (.iaload, 1) := by decide +kernel
theorem d_Mo_isCompared_17 : decode (yB Y_Mo_isCompared) 17 = .ok (.i2l, 1) := by decide +kernel
theorem d_Mo_isCompared_18 : decode (yB Y_Mo_isCompared) 18 = .ok (.ldc2_w 304, 3) := by decide +kernel
theorem d_Mo_isCompared_21 : decode (yB Y_Mo_isCompared) 21 = .ok (.ldc2_w 306, 3) := by decide +kernel
theorem d_Mo_isCompared_24 : decode (yB Y_Mo_isCompared) 24 = .ok (.invokestatic 176, 3) := by decide +kernel
theorem d_Mo_isCompared_27 : decode (yB Y_Mo_isCompared) 27 = .ok (.ifCond .eq 9, 3) := by decide +kernel
theorem d_Mo_isCompared_30 : decode (yB Y_Mo_isCompared) 30 = .ok (.iinc 1 (-1), 3) := by decide +kernel
theorem d_Mo_isCompared_33 : decode (yB Y_Mo_isCompared) 33 = .ok (.goto (-26), 3) := by decide +kernel
theorem d_Mo_isCompared_36 : decode (yB Y_Mo_isCompared) 36 = .ok (.iload_n 1, 1) := by decide +kernel
theorem d_Mo_isCompared_37 : decode (yB Y_Mo_isCompared) 37 = .ok (.ifCond .lt 26, 3) := by decide +kernel
theorem d_Mo_isCompared_40 : decode (yB Y_Mo_isCompared) 40 = .ok (.aload_n 0, 1) := by decide +kernel
theorem d_Mo_isCompared_41 : decode (yB Y_Mo_isCompared) 41 = .ok (.getfield 51, 3) := by decide +kernel
theorem d_Mo_isCompared_44 : decode (yB Y_Mo_isCompared) 44 = .ok (.iload_n 1, 1) := by decide +kernel
theorem d_Mo_isCompared_45 : decode (yB Y_Mo_isCompared) 45 = .ok (.iaload, 1) := by decide +kernel
theorem d_Mo_isCompared_46 : decode (yB Y_Mo_isCompared) 46 = .ok (.i2l, 1) := by decide +kernel
theorem d_Mo_isCompared_47 : decode (yB Y_Mo_isCompared) 47 = .ok (.ldc2_w 308, 3) := by decide +kernel
theorem d_Mo_isCompared_50 : decode (yB Y_Mo_isCompared) 50 = .ok (.ldc2_w 310, 3) := by decide +kernel
theorem d_Mo_isCompared_53 : decode (yB Y_Mo_isCompared) 53 = .ok (.invokestatic 176, 3) := by decide +kernel
theorem d_Mo_isCompared_56 : decode (yB Y_Mo_isCompared) 56 = .ok (.ifCond .eq 7, 3) := by decide +kernel
theorem d_Mo_isCompared_59 : decode (yB Y_Mo_isCompared) 59 = .ok (.iconst 1, 1) := by decide +kernel
theorem d_Mo_isCompared_60 : decode (yB Y_Mo_isCompared) 60 = .ok (.goto 4, 3) := by decide +kernel
theorem d_Mo_isCompared_63 : decode (yB Y_Mo_isCompared) 63 = .ok (.iconst 0, 1) := by decide +kernel
theorem d_Mo_isCompared_64 : decode (yB Y_Mo_isCompared) 64 = .ok (.ireturn, 1) := by decide +kernel
def F_Mo_isCompared_b36 (n : Nat) (E : zE) (S : zS) (a0 : Nat) (x1 : Int32) (M : zH) : Option (Bool × zH) :=
  if x1 < 0 then
    some (false, M)
  else
    (zgR S a0 11 27).bind fun b_2 =>
    (zldI S M b_2 x1).bind fun v_3 =>
    (F_Mo_in n E S v_3.toInt64 25 27 M).bind fun q_4 =>
    if q_4.1 = true then
      some (true, q_4.2)
    else
      some (false, q_4.2)
def F_Mo_isCompared_L7 (n : Nat) (E : zE) (S : zS) (r7 : Nat × Int32 × zH → Option (Bool × zH)) (a0 : Nat) (x1 : Int32) (M : zH) : Option (Bool × zH) :=
  if x1 < 0 then
    F_Mo_isCompared_b36 n E S a0 x1 M
  else
    (zgR S a0 11 27).bind fun b_7 =>
    (zldI S M b_7 x1).bind fun v_8 =>
    (F_Mo_in n E S v_8.toInt64 20 24 M).bind fun q_9 =>
    if q_9.1 = true then
      r7 (a0, x1 + (-1), q_9.2)
    else
      F_Mo_isCompared_b36 n E S a0 x1 q_9.2
def F_Mo_isCompared_b7 (n : Nat) (E : zE) (S : zS) : Nat × Int32 × zH → Option (Bool × zH) := zfix (fun r7 s => F_Mo_isCompared_L7 n E S r7 s.1 s.2.1 s.2.2) n
def F_Mo_isCompared (n : Nat) (E : zE) (S : zS) (a0 : Nat) (M : zH) : Option (Bool × zH) :=
  (zgI S M a0 11 29).bind fun v_11 =>
  F_Mo_isCompared_b7 n E S (a0, v_11 - 1, M)
theorem K_Mo_isCompared_b36 (n : Nat) (E : zE) (S : zS) (a0 : Nat) (x1 : Int32) (M : zH) (r : Bool) (M' : zH)  (h : F_Mo_isCompared_b36 n E S a0 x1 M = some (r, M')) : zG E Y_Mo_isCompared (some (.int (bI r)), S, M') 36 [(0, .ref a0), (1, .int x1)] [] S M 0 0 := by
  unfold F_Mo_isCompared_b36 at h
  refine zi_iload_n 1 d_Mo_isCompared_36 rfl ?_
  refine zi_if_lt (tgt := 63) d_Mo_isCompared_37 rfl (fun c_1 => ?_) (fun c_1 => ?_)
  · rw [if_pos c_1] at h
    refine zi_iconst 0 d_Mo_isCompared_63 rfl ?_
    cases h
    exact zo_retB d_Mo_isCompared_64 (Nat.le_of_ble_eq_true rfl) (Nat.le_of_ble_eq_true rfl) rfl
  · rw [if_neg c_1] at h
    refine zi_aload_n 0 d_Mo_isCompared_40 rfl ?_
    obtain ⟨b_2, eb_2, h⟩ := zbind h
    refine zo_getR 44 zkd_11 27 d_Mo_isCompared_41 eb_2 rfl tw_1258 rfl ?_
    refine zi_iload_n 1 d_Mo_isCompared_44 rfl ?_
    obtain ⟨v_3, ev_3, h⟩ := zbind h
    refine zo_iald 46 d_Mo_isCompared_45 ev_3 rfl ?_
    refine zi_i2l d_Mo_isCompared_46 ?_
    refine zi_ldc2 d_Mo_isCompared_47 tw_1670 ?_
    refine zi_ldc2 d_Mo_isCompared_50 tw_1671 ?_
    obtain ⟨q_4, eq_4, h⟩ := zbind h
    refine zo_stat (k' := 0) (n' := 0) 56 [.long v_3.toInt64, .long 25, .long 27] [] [.int (bI q_4.1)] (C_Mo_in n E S v_3.toInt64 25 27 M q_4.1 q_4.2 eq_4) d_Mo_isCompared_53 tw_1421 tw_1419 tw_1420 tw_13 dd_Mo_in ⟨Nat.le_of_ble_eq_true rfl, Nat.le_of_ble_eq_true rfl, Nat.le_of_ble_eq_true rfl, Nat.le_of_ble_eq_true rfl⟩ (Nat.le_of_ble_eq_true rfl) rfl rfl rfl rfl ?_
    refine zo_ifeqB d_Mo_isCompared_56 rfl 59 rfl (fun c_5 => ?_) (fun c_5 => ?_)
    · rw [if_neg c_5] at h
      refine zi_iconst 0 d_Mo_isCompared_63 rfl ?_
      cases h
      exact zo_retB d_Mo_isCompared_64 (Nat.le_of_ble_eq_true rfl) (Nat.le_of_ble_eq_true rfl) rfl
    · rw [if_pos c_5] at h
      refine zi_iconst 1 d_Mo_isCompared_59 rfl ?_
      refine zi_goto (tgt := 64) d_Mo_isCompared_60 rfl ?_
      cases h
      exact zo_retB d_Mo_isCompared_64 (Nat.le_of_ble_eq_true rfl) (Nat.le_of_ble_eq_true rfl) rfl
theorem K_Mo_isCompared_L7 (n : Nat) (E : zE) (S : zS) (r7 : Nat × Int32 × zH → Option (Bool × zH)) (a0 : Nat) (x1 : Int32) (M : zH) (r : Bool) (M' : zH) (hr7 : ∀ (a0 : Nat) (x1 : Int32) (M : zH), r7 (a0, x1, M) = some (r, M') → zG E Y_Mo_isCompared (some (.int (bI r)), S, M') 7 [(0, .ref a0), (1, .int x1)] [] S M 0 0) (h : F_Mo_isCompared_L7 n E S r7 a0 x1 M = some (r, M')) : zG E Y_Mo_isCompared (some (.int (bI r)), S, M') 7 [(0, .ref a0), (1, .int x1)] [] S M 0 0 := by
  unfold F_Mo_isCompared_L7 at h
  refine zi_iload_n 1 d_Mo_isCompared_7 rfl ?_
  refine zi_if_lt (tgt := 36) d_Mo_isCompared_8 rfl (fun c_6 => ?_) (fun c_6 => ?_)
  · rw [if_pos c_6] at h
    refine zi_lo [(0, .ref a0), (1, .int x1)] [0, 1] rfl ?_
    exact K_Mo_isCompared_b36 n E S a0 x1 M r M'  h
  · rw [if_neg c_6] at h
    refine zi_aload_n 0 d_Mo_isCompared_11 rfl ?_
    obtain ⟨b_7, eb_7, h⟩ := zbind h
    refine zo_getR 15 zkd_11 27 d_Mo_isCompared_12 eb_7 rfl tw_1258 rfl ?_
    refine zi_iload_n 1 d_Mo_isCompared_15 rfl ?_
    obtain ⟨v_8, ev_8, h⟩ := zbind h
    refine zo_iald 17 d_Mo_isCompared_16 ev_8 rfl ?_
    refine zi_i2l d_Mo_isCompared_17 ?_
    refine zi_ldc2 d_Mo_isCompared_18 tw_1668 ?_
    refine zi_ldc2 d_Mo_isCompared_21 tw_1669 ?_
    obtain ⟨q_9, eq_9, h⟩ := zbind h
    refine zo_stat (k' := 0) (n' := 0) 27 [.long v_8.toInt64, .long 20, .long 24] [] [.int (bI q_9.1)] (C_Mo_in n E S v_8.toInt64 20 24 M q_9.1 q_9.2 eq_9) d_Mo_isCompared_24 tw_1421 tw_1419 tw_1420 tw_13 dd_Mo_in ⟨Nat.le_of_ble_eq_true rfl, Nat.le_of_ble_eq_true rfl, Nat.le_of_ble_eq_true rfl, Nat.le_of_ble_eq_true rfl⟩ (Nat.le_of_ble_eq_true rfl) rfl rfl rfl rfl ?_
    refine zo_ifeqB d_Mo_isCompared_27 rfl 30 rfl (fun c_10 => ?_) (fun c_10 => ?_)
    · rw [if_neg c_10] at h
      refine zi_lo [(0, .ref a0), (1, .int x1)] [0, 1] rfl ?_
      exact K_Mo_isCompared_b36 n E S a0 x1 q_9.2 r M'  h
    · rw [if_pos c_10] at h
      refine zi_iinc 1 (x1 + (-1)) [(1, .int (x1 + (-1))), (0, .ref a0)] d_Mo_isCompared_30 rfl rfl (by decide) rfl ?_
      refine zi_goto (tgt := 7) d_Mo_isCompared_33 rfl ?_
      refine zi_lo [(0, .ref a0), (1, .int (x1 + (-1)))] [1, 0] rfl ?_
      exact hr7 a0 (x1 + (-1)) q_9.2 h
theorem K_Mo_isCompared_b7 (n : Nat) (E : zE) (S : zS) (a0 : Nat) (x1 : Int32) (M : zH) (r : Bool) (M' : zH)  (h : F_Mo_isCompared_b7 n E S (a0, x1, M) = some (r, M')) : zG E Y_Mo_isCompared (some (.int (bI r)), S, M') 7 [(0, .ref a0), (1, .int x1)] [] S M 0 0 := by
  have key : ∀ (k : Nat) (a0 : Nat) (x1 : Int32) (M : zH), zfix (fun r7 s => F_Mo_isCompared_L7 n E S r7 s.1 s.2.1 s.2.2) k (a0, x1, M) = some (r, M') → zG E Y_Mo_isCompared (some (.int (bI r)), S, M') 7 [(0, .ref a0), (1, .int x1)] [] S M 0 0 := by
    intro k
    induction k with
    | zero => intro a0 x1 M h; cases h
    | succ k ih => intro a0 x1 M h; exact K_Mo_isCompared_L7 n E S _ a0 x1 M r M'  (fun a0 x1 M h => ih a0 x1 M h) h
  exact key n a0 x1 M h
theorem K_Mo_isCompared (n : Nat) (E : zE) (S : zS) (a0 : Nat) (M : zH) (r : Bool) (M' : zH)  (h : F_Mo_isCompared n E S a0 M = some (r, M')) : zG E Y_Mo_isCompared (some (.int (bI r)), S, M') 0 [(0, .ref a0)] [] S M 0 0 := by
  unfold F_Mo_isCompared at h
  refine zi_aload_n 0 d_Mo_isCompared_0 rfl ?_
  obtain ⟨v_11, ev_11, h⟩ := zbind h
  refine zo_getI 4 zkd_11 29 d_Mo_isCompared_1 ev_11 rfl tw_1260 rfl ?_
  refine zi_iconst 1 d_Mo_isCompared_4 rfl ?_
  refine zi_isub d_Mo_isCompared_5 ?_
  refine zi_istore_n [(1, .int (v_11 - 1)), (0, .ref a0)] d_Mo_isCompared_6 (by decide) rfl ?_
  refine zi_lo [(0, .ref a0), (1, .int (v_11 - 1))] [1, 0] rfl ?_
  exact K_Mo_isCompared_b7 n E S a0 (v_11 - 1) M r M'  h
theorem C_Mo_isCompared (n : Nat) (E : zE) (S : zS) (a0 : Nat) (M : zH) (r : Bool) (M' : zH) (h : F_Mo_isCompared n E S a0 M = some (r, M')) : zC E Y_Mo_isCompared [.ref a0] S M (some (.int (bI r)), S, M') :=
  zC.of (Or.inl (show plainName "NightColanderModel" = true by decide)) (Nat.le_of_ble_eq_true rfl) (bI_nar r) (K_Mo_isCompared n E S a0 M r M' h)
theorem d_Mo_push_0 : decode (yB Y_Mo_push) 0 = .ok (.aload_n 0, 1) := by decide +kernel
theorem d_Mo_push_1 : decode (yB Y_Mo_push) 1 = .ok (.getfield 51, 3) := by decide +kernel
theorem d_Mo_push_4 : decode (yB Y_Mo_push) 4 = .ok (.aload_n 0, 1) := by decide +kernel
theorem d_Mo_push_5 : decode (yB Y_Mo_push) 5 = .ok (.getfield 294, 3) := by decide +kernel
theorem d_Mo_push_8 : decode (yB Y_Mo_push) 8 = .ok (.iload_n 1, 1) := by decide +kernel
theorem d_Mo_push_9 : decode (yB Y_Mo_push) 9 = .ok (.iastore, 1) := by decide +kernel
theorem d_Mo_push_10 : decode (yB Y_Mo_push) 10 = .ok (.aload_n 0, 1) := by decide +kernel
theorem d_Mo_push_11 : decode (yB Y_Mo_push) 11 = .ok (.getfield 54, 3) := by decide +kernel
theorem d_Mo_push_14 : decode (yB Y_Mo_push) 14 = .ok (.aload_n 0, 1) := by decide +kernel
theorem d_Mo_push_15 : decode (yB Y_Mo_push) 15 = .ok (.getfield 294, 3) := by decide +kernel
theorem d_Mo_push_18 : decode (yB Y_Mo_push) 18 = .ok (.iload_n 2, 1) := by decide +kernel
theorem d_Mo_push_19 : decode (yB Y_Mo_push) 19 = .ok (.iastore, 1) := by decide +kernel
theorem d_Mo_push_20 : decode (yB Y_Mo_push) 20 = .ok (.aload_n 0, 1) := by decide +kernel
theorem d_Mo_push_21 : decode (yB Y_Mo_push) 21 = .ok (.dup, 1) := by decide +kernel
theorem d_Mo_push_22 : decode (yB Y_Mo_push) 22 = .ok (.getfield 294, 3) := by decide +kernel
theorem d_Mo_push_25 : decode (yB Y_Mo_push) 25 = .ok (.iconst 1, 1) := by decide +kernel
theorem d_Mo_push_26 : decode (yB Y_Mo_push) 26 = .ok (.iadd, 1) := by decide +kernel
theorem d_Mo_push_27 : decode (yB Y_Mo_push) 27 = .ok (.putfield 294, 3) := by decide +kernel
theorem d_Mo_push_30 : decode (yB Y_Mo_push) 30 = .ok (.return_, 1) := by decide +kernel
def F_Mo_push (n : Nat) (E : zE) (S : zS) (a0 : Nat) (x1 : Int32) (x2 : Int32) (M : zH) : Option (zH) :=
  (zgR S a0 11 27).bind fun b_1 =>
  (zgI S M a0 11 29).bind fun v_2 =>
  (zstI S M b_1 v_2 x1).bind fun m_3 =>
  (zgR S a0 11 28).bind fun b_4 =>
  (zgI S m_3 a0 11 29).bind fun v_5 =>
  (zstI S m_3 b_4 v_5 x2).bind fun m_6 =>
  (zgI S m_6 a0 11 29).bind fun v_7 =>
  (zpI S m_6 a0 11 29 (v_7 + 1)).bind fun m_8 =>
  some (m_8)
theorem K_Mo_push (n : Nat) (E : zE) (S : zS) (a0 : Nat) (x1 : Int32) (x2 : Int32) (M : zH) (M' : zH)  (h : F_Mo_push n E S a0 x1 x2 M = some M') : zG E Y_Mo_push (none, S, M') 0 [(0, .ref a0), (1, .int x1), (2, .int x2)] [] S M 0 0 := by
  unfold F_Mo_push at h
  refine zi_aload_n 0 d_Mo_push_0 rfl ?_
  obtain ⟨b_1, eb_1, h⟩ := zbind h
  refine zo_getR 4 zkd_11 27 d_Mo_push_1 eb_1 rfl tw_1258 rfl ?_
  refine zi_aload_n 0 d_Mo_push_4 rfl ?_
  obtain ⟨v_2, ev_2, h⟩ := zbind h
  refine zo_getI 8 zkd_11 29 d_Mo_push_5 ev_2 rfl tw_1260 rfl ?_
  refine zi_iload_n 1 d_Mo_push_8 rfl ?_
  obtain ⟨m_3, em_3, h⟩ := zbind h
  refine zo_iast 10 d_Mo_push_9 em_3 rfl ?_
  refine zi_aload_n 0 d_Mo_push_10 rfl ?_
  obtain ⟨b_4, eb_4, h⟩ := zbind h
  refine zo_getR 14 zkd_11 28 d_Mo_push_11 eb_4 rfl tw_1259 rfl ?_
  refine zi_aload_n 0 d_Mo_push_14 rfl ?_
  obtain ⟨v_5, ev_5, h⟩ := zbind h
  refine zo_getI 18 zkd_11 29 d_Mo_push_15 ev_5 rfl tw_1260 rfl ?_
  refine zi_iload_n 2 d_Mo_push_18 rfl ?_
  obtain ⟨m_6, em_6, h⟩ := zbind h
  refine zo_iast 20 d_Mo_push_19 em_6 rfl ?_
  refine zi_aload_n 0 d_Mo_push_20 rfl ?_
  refine zi_dup d_Mo_push_21 rfl ?_
  obtain ⟨v_7, ev_7, h⟩ := zbind h
  refine zo_getI 25 zkd_11 29 d_Mo_push_22 ev_7 rfl tw_1260 rfl ?_
  refine zi_iconst 1 d_Mo_push_25 rfl ?_
  refine zi_iadd d_Mo_push_26 ?_
  obtain ⟨m_8, em_8, h⟩ := zbind h
  refine zo_putI 30 zkd_11 29 d_Mo_push_27 em_8 rfl rfl rfl tw_1260 rfl ?_
  cases h
  exact zo_ret d_Mo_push_30 (Nat.le_of_ble_eq_true rfl) (Nat.le_of_ble_eq_true rfl) rfl
theorem C_Mo_push (n : Nat) (E : zE) (S : zS) (a0 : Nat) (x1 : Int32) (x2 : Int32) (M : zH) (M' : zH) (h : F_Mo_push n E S a0 x1 x2 M = some M') : zC E Y_Mo_push [.ref a0, .int x1, .int x2] S M (none, S, M') :=
  zC.of (Or.inl (show plainName "NightColanderModel" = true by decide)) (Nat.le_of_ble_eq_true rfl) (trivial) (K_Mo_push n E S a0 x1 x2 M M' h)
theorem d_Mo_emit_0 : decode (yB Y_Mo_emit) 0 = .ok (.aload_n 0, 1) := by decide +kernel
theorem d_Mo_emit_1 : decode (yB Y_Mo_emit) 1 = .ok (.getfield 45, 3) := by decide +kernel
theorem d_Mo_emit_4 : decode (yB Y_Mo_emit) 4 = .ok (.aload_n 0, 1) := by decide +kernel
theorem d_Mo_emit_5 : decode (yB Y_Mo_emit) 5 = .ok (.getfield 291, 3) := by decide +kernel
theorem d_Mo_emit_8 : decode (yB Y_Mo_emit) 8 = .ok (.iload_n 1, 1) := by decide +kernel
theorem d_Mo_emit_9 : decode (yB Y_Mo_emit) 9 = .ok (.iastore, 1) := by decide +kernel
theorem d_Mo_emit_10 : decode (yB Y_Mo_emit) 10 = .ok (.aload_n 0, 1) := by decide +kernel
theorem d_Mo_emit_11 : decode (yB Y_Mo_emit) 11 = .ok (.getfield 48, 3) := by decide +kernel
theorem d_Mo_emit_14 : decode (yB Y_Mo_emit) 14 = .ok (.aload_n 0, 1) := by decide +kernel
theorem d_Mo_emit_15 : decode (yB Y_Mo_emit) 15 = .ok (.getfield 291, 3) := by decide +kernel
theorem d_Mo_emit_18 : decode (yB Y_Mo_emit) 18 = .ok (.iload_n 2, 1) := by decide +kernel
theorem d_Mo_emit_19 : decode (yB Y_Mo_emit) 19 = .ok (.iastore, 1) := by decide +kernel
theorem d_Mo_emit_20 : decode (yB Y_Mo_emit) 20 = .ok (.aload_n 0, 1) := by decide +kernel
theorem d_Mo_emit_21 : decode (yB Y_Mo_emit) 21 = .ok (.dup, 1) := by decide +kernel
theorem d_Mo_emit_22 : decode (yB Y_Mo_emit) 22 = .ok (.getfield 291, 3) := by decide +kernel
theorem d_Mo_emit_25 : decode (yB Y_Mo_emit) 25 = .ok (.iconst 1, 1) := by decide +kernel
theorem d_Mo_emit_26 : decode (yB Y_Mo_emit) 26 = .ok (.iadd, 1) := by decide +kernel
theorem d_Mo_emit_27 : decode (yB Y_Mo_emit) 27 = .ok (.putfield 291, 3) := by decide +kernel
theorem d_Mo_emit_30 : decode (yB Y_Mo_emit) 30 = .ok (.return_, 1) := by decide +kernel
def F_Mo_emit (n : Nat) (E : zE) (S : zS) (a0 : Nat) (x1 : Int32) (x2 : Int32) (M : zH) : Option (zH) :=
  (zgR S a0 11 24).bind fun b_1 =>
  (zgI S M a0 11 23).bind fun v_2 =>
  (zstI S M b_1 v_2 x1).bind fun m_3 =>
  (zgR S a0 11 25).bind fun b_4 =>
  (zgI S m_3 a0 11 23).bind fun v_5 =>
  (zstI S m_3 b_4 v_5 x2).bind fun m_6 =>
  (zgI S m_6 a0 11 23).bind fun v_7 =>
  (zpI S m_6 a0 11 23 (v_7 + 1)).bind fun m_8 =>
  some (m_8)
theorem K_Mo_emit (n : Nat) (E : zE) (S : zS) (a0 : Nat) (x1 : Int32) (x2 : Int32) (M : zH) (M' : zH)  (h : F_Mo_emit n E S a0 x1 x2 M = some M') : zG E Y_Mo_emit (none, S, M') 0 [(0, .ref a0), (1, .int x1), (2, .int x2)] [] S M 0 0 := by
  unfold F_Mo_emit at h
  refine zi_aload_n 0 d_Mo_emit_0 rfl ?_
  obtain ⟨b_1, eb_1, h⟩ := zbind h
  refine zo_getR 4 zkd_11 24 d_Mo_emit_1 eb_1 rfl tw_1255 rfl ?_
  refine zi_aload_n 0 d_Mo_emit_4 rfl ?_
  obtain ⟨v_2, ev_2, h⟩ := zbind h
  refine zo_getI 8 zkd_11 23 d_Mo_emit_5 ev_2 rfl tw_1254 rfl ?_
  refine zi_iload_n 1 d_Mo_emit_8 rfl ?_
  obtain ⟨m_3, em_3, h⟩ := zbind h
  refine zo_iast 10 d_Mo_emit_9 em_3 rfl ?_
  refine zi_aload_n 0 d_Mo_emit_10 rfl ?_
  obtain ⟨b_4, eb_4, h⟩ := zbind h
  refine zo_getR 14 zkd_11 25 d_Mo_emit_11 eb_4 rfl tw_1256 rfl ?_
  refine zi_aload_n 0 d_Mo_emit_14 rfl ?_
  obtain ⟨v_5, ev_5, h⟩ := zbind h
  refine zo_getI 18 zkd_11 23 d_Mo_emit_15 ev_5 rfl tw_1254 rfl ?_
  refine zi_iload_n 2 d_Mo_emit_18 rfl ?_
  obtain ⟨m_6, em_6, h⟩ := zbind h
  refine zo_iast 20 d_Mo_emit_19 em_6 rfl ?_
  refine zi_aload_n 0 d_Mo_emit_20 rfl ?_
  refine zi_dup d_Mo_emit_21 rfl ?_
  obtain ⟨v_7, ev_7, h⟩ := zbind h
  refine zo_getI 25 zkd_11 23 d_Mo_emit_22 ev_7 rfl tw_1254 rfl ?_
  refine zi_iconst 1 d_Mo_emit_25 rfl ?_
  refine zi_iadd d_Mo_emit_26 ?_
  obtain ⟨m_8, em_8, h⟩ := zbind h
  refine zo_putI 30 zkd_11 23 d_Mo_emit_27 em_8 rfl rfl rfl tw_1254 rfl ?_
  cases h
  exact zo_ret d_Mo_emit_30 (Nat.le_of_ble_eq_true rfl) (Nat.le_of_ble_eq_true rfl) rfl
theorem C_Mo_emit (n : Nat) (E : zE) (S : zS) (a0 : Nat) (x1 : Int32) (x2 : Int32) (M : zH) (M' : zH) (h : F_Mo_emit n E S a0 x1 x2 M = some M') : zC E Y_Mo_emit [.ref a0, .int x1, .int x2] S M (none, S, M') :=
  zC.of (Or.inl (show plainName "NightColanderModel" = true by decide)) (Nat.le_of_ble_eq_true rfl) (trivial) (K_Mo_emit n E S a0 x1 x2 M M' h)
theorem d_Mo_settle_0 : decode (yB Y_Mo_settle) 0 = .ok (.aload_n 0, 1) := by decide +kernel
theorem d_Mo_settle_1 : decode (yB Y_Mo_settle) 1 = .ok (.getfield 294, 3) := by decide +kernel
theorem d_Mo_settle_4 : decode (yB Y_Mo_settle) 4 = .ok (.ifCond .le 97, 3) := by decide +kernel
theorem d_Mo_settle_7 : decode (yB Y_Mo_settle) 7 = .ok (.aload_n 0, 1) := by decide +kernel
theorem d_Mo_settle_8 : decode (yB Y_Mo_settle) 8 = .ok (.getfield 51, 3) := by decide +kernel
theorem d_Mo_settle_11 : decode (yB Y_Mo_settle) 11 = .ok (.aload_n 0, 1) := by decide +kernel
theorem d_Mo_settle_12 : decode (yB Y_Mo_settle) 12 = .ok (.getfield 294, 3) := by decide +kernel
theorem d_Mo_settle_15 : decode (yB Y_Mo_settle) 15 = .ok (.iconst 1, 1) := by decide +kernel
theorem d_Mo_settle_16 : decode (yB Y_Mo_settle) 16 = .ok (.isub, 1) := by decide +kernel
theorem d_Mo_settle_17 : decode (yB Y_Mo_settle) 17 = .ok (.iaload, 1) := by decide +kernel
theorem d_Mo_settle_18 : decode (yB Y_Mo_settle) 18 = .ok (.invokestatic 297, 3) := by decide +kernel
theorem d_Mo_settle_21 : decode (yB Y_Mo_settle) 21 = .ok (.iload_n 1, 1) := by decide +kernel
theorem d_Mo_settle_22 : decode (yB Y_Mo_settle) 22 = .ok (.if_icmp .lt 79, 3) := by decide +kernel
theorem d_Mo_settle_25 : decode (yB Y_Mo_settle) 25 = .ok (.aload_n 0, 1) := by decide +kernel
theorem d_Mo_settle_26 : decode (yB Y_Mo_settle) 26 = .ok (.dup, 1) := by decide +kernel
theorem d_Mo_settle_27 : decode (yB Y_Mo_settle) 27 = .ok (.getfield 294, 3) := by decide +kernel
theorem d_Mo_settle_30 : decode (yB Y_Mo_settle) 30 = .ok (.iconst 1, 1) := by decide +kernel
theorem d_Mo_settle_31 : decode (yB Y_Mo_settle) 31 = .ok (.isub, 1) := by decide +kernel
theorem d_Mo_settle_32 : decode (yB Y_Mo_settle) 32 = .ok (.putfield 294, 3) := by decide +kernel
theorem d_Mo_settle_35 : decode (yB Y_Mo_settle) 35 = .ok (.aload_n 0, 1) := by decide +kernel
theorem d_Mo_settle_36 : decode (yB Y_Mo_settle) 36 = .ok (.getfield 51, 3) := by decide +kernel
theorem d_Mo_settle_39 : decode (yB Y_Mo_settle) 39 = .ok (.aload_n 0, 1) := by decide +kernel
theorem d_Mo_settle_40 : decode (yB Y_Mo_settle) 40 = .ok (.getfield 294, 3) := by decide +kernel
theorem d_Mo_settle_43 : decode (yB Y_Mo_settle) 43 = .ok (.iaload, 1) := by decide +kernel
theorem d_Mo_settle_44 : decode (yB Y_Mo_settle) 44 = .ok (.bipush 29, 2) := by decide +kernel
theorem d_Mo_settle_46 : decode (yB Y_Mo_settle) 46 = .ok (.if_icmp .eq 17, 3) := by decide +kernel
theorem d_Mo_settle_49 : decode (yB Y_Mo_settle) 49 = .ok (.aload_n 0, 1) := by decide +kernel
theorem d_Mo_settle_50 : decode (yB Y_Mo_settle) 50 = .ok (.getfield 51, 3) := by decide +kernel
theorem d_Mo_settle_53 : decode (yB Y_Mo_settle) 53 = .ok (.aload_n 0, 1) := by decide +kernel
theorem d_Mo_settle_54 : decode (yB Y_Mo_settle) 54 = .ok (.getfield 294, 3) := by decide +kernel
theorem d_Mo_settle_57 : decode (yB Y_Mo_settle) 57 = .ok (.iaload, 1) := by decide +kernel
theorem d_Mo_settle_58 : decode (yB Y_Mo_settle) 58 = .ok (.bipush 30, 2) := by decide +kernel
theorem d_Mo_settle_60 : decode (yB Y_Mo_settle) 60 = .ok (.if_icmp .ne 24, 3) := by decide +kernel
theorem d_Mo_settle_63 : decode (yB Y_Mo_settle) 63 = .ok (.aload_n 0, 1) := by decide +kernel
theorem d_Mo_settle_64 : decode (yB Y_Mo_settle) 64 = .ok (.getfield 48, 3) := by decide +kernel
theorem d_Mo_settle_67 : decode (yB Y_Mo_settle) 67 = .ok (.aload_n 0, 1) := by decide +kernel
theorem d_Mo_settle_68 : decode (yB Y_Mo_settle) 68 = .ok (.getfield 54, 3) := by decide +kernel
theorem d_Mo_settle_71 : decode (yB Y_Mo_settle) 71 = .ok (.aload_n 0, 1) := by decide +kernel
theorem d_Mo_settle_72 : decode (yB Y_Mo_settle) 72 = .ok (.getfield 294, 3) := by decide +kernel
theorem d_Mo_settle_75 : decode (yB Y_Mo_settle) 75 = .ok (.iaload, 1) := by decide +kernel
theorem d_Mo_settle_76 : decode (yB Y_Mo_settle) 76 = .ok (.aload_n 0, 1) := by decide +kernel
theorem d_Mo_settle_77 : decode (yB Y_Mo_settle) 77 = .ok (.getfield 291, 3) := by decide +kernel
theorem d_Mo_settle_80 : decode (yB Y_Mo_settle) 80 = .ok (.iastore, 1) := by decide +kernel
theorem d_Mo_settle_81 : decode (yB Y_Mo_settle) 81 = .ok (.goto (-81), 3) := by decide +kernel
theorem d_Mo_settle_84 : decode (yB Y_Mo_settle) 84 = .ok (.aload_n 0, 1) := by decide +kernel
theorem d_Mo_settle_85 : decode (yB Y_Mo_settle) 85 = .ok (.aload_n 0, 1) := by decide +kernel
theorem d_Mo_settle_86 : decode (yB Y_Mo_settle) 86 = .ok (.getfield 51, 3) := by decide +kernel
theorem d_Mo_settle_89 : decode (yB Y_Mo_settle) 89 = .ok (.aload_n 0, 1) := by decide +kernel
theorem d_Mo_settle_90 : decode (yB Y_Mo_settle) 90 = .ok (.getfield 294, 3) := by decide +kernel
theorem d_Mo_settle_93 : decode (yB Y_Mo_settle) 93 = .ok (.iaload, 1) := by decide +kernel
theorem d_Mo_settle_94 : decode (yB Y_Mo_settle) 94 = .ok (.iconst 0, 1) := by decide +kernel
theorem d_Mo_settle_95 : decode (yB Y_Mo_settle) 95 = .ok (.invokevirtual 300, 3) := by decide +kernel
theorem d_Mo_settle_98 : decode (yB Y_Mo_settle) 98 = .ok (.goto (-98), 3) := by decide +kernel
theorem d_Mo_settle_101 : decode (yB Y_Mo_settle) 101 = .ok (.return_, 1) := by decide +kernel
def F_Mo_settle_b63 (n : Nat) (E : zE) (S : zS) (r0 : Nat × Int32 × zH → Option (zH)) (a0 : Nat) (x1 : Int32) (M : zH) : Option (zH) :=
  (zgR S a0 11 25).bind fun b_1 =>
  (zgR S a0 11 28).bind fun b_2 =>
  (zgI S M a0 11 29).bind fun v_3 =>
  (zldI S M b_2 v_3).bind fun v_4 =>
  (zgI S M a0 11 23).bind fun v_5 =>
  (zstI S M b_1 v_4 v_5).bind fun m_6 =>
  r0 (a0, x1, m_6)
def F_Mo_settle_L0 (n : Nat) (E : zE) (S : zS) (r0 : Nat × Int32 × zH → Option (zH)) (a0 : Nat) (x1 : Int32) (M : zH) : Option (zH) :=
  (zgI S M a0 11 29).bind fun v_7 =>
  if v_7 ≤ 0 then
    some (M)
  else
    (zgR S a0 11 27).bind fun b_9 =>
    (zgI S M a0 11 29).bind fun v_10 =>
    (zldI S M b_9 (v_10 - 1)).bind fun v_11 =>
    (F_Mo_binds n E S v_11 M).bind fun q_12 =>
    if q_12.1 < x1 then
      some (q_12.2)
    else
      (zgI S q_12.2 a0 11 29).bind fun v_14 =>
      (zpI S q_12.2 a0 11 29 (v_14 - 1)).bind fun m_15 =>
      (zgI S m_15 a0 11 29).bind fun v_16 =>
      (zldI S m_15 b_9 v_16).bind fun v_17 =>
      if v_17 = 29 then
        F_Mo_settle_b63 n E S r0 a0 x1 m_15
      else
        (zgI S m_15 a0 11 29).bind fun v_19 =>
        (zldI S m_15 b_9 v_19).bind fun v_20 =>
        if v_20 = 30 then
          F_Mo_settle_b63 n E S r0 a0 x1 m_15
        else
          (zgI S m_15 a0 11 29).bind fun v_22 =>
          (zldI S m_15 b_9 v_22).bind fun v_23 =>
          (F_Mo_emit n E S a0 v_23 0 m_15).bind fun q_24 =>
          r0 (a0, x1, q_24)
def F_Mo_settle_b0 (n : Nat) (E : zE) (S : zS) : Nat × Int32 × zH → Option (zH) := zfix (fun r0 s => F_Mo_settle_L0 n E S r0 s.1 s.2.1 s.2.2) n
def F_Mo_settle (n : Nat) (E : zE) (S : zS) (a0 : Nat) (x1 : Int32) (M : zH) : Option (zH) :=
  F_Mo_settle_b0 n E S (a0, x1, M)
theorem K_Mo_settle_b63 (n : Nat) (E : zE) (S : zS) (r0 : Nat × Int32 × zH → Option (zH)) (a0 : Nat) (x1 : Int32) (M : zH) (M' : zH) (hr0 : ∀ (a0 : Nat) (x1 : Int32) (M : zH), r0 (a0, x1, M) = some M' → zG E Y_Mo_settle (none, S, M') 0 [(0, .ref a0), (1, .int x1)] [] S M 0 0) (h : F_Mo_settle_b63 n E S r0 a0 x1 M = some M') : zG E Y_Mo_settle (none, S, M') 63 [(0, .ref a0), (1, .int x1)] [] S M 0 0 := by
  unfold F_Mo_settle_b63 at h
  refine zi_aload_n 0 d_Mo_settle_63 rfl ?_
  obtain ⟨b_1, eb_1, h⟩ := zbind h
  refine zo_getR 67 zkd_11 25 d_Mo_settle_64 eb_1 rfl tw_1256 rfl ?_
  refine zi_aload_n 0 d_Mo_settle_67 rfl ?_
  obtain ⟨b_2, eb_2, h⟩ := zbind h
  refine zo_getR 71 zkd_11 28 d_Mo_settle_68 eb_2 rfl tw_1259 rfl ?_
  refine zi_aload_n 0 d_Mo_settle_71 rfl ?_
  obtain ⟨v_3, ev_3, h⟩ := zbind h
  refine zo_getI 75 zkd_11 29 d_Mo_settle_72 ev_3 rfl tw_1260 rfl ?_
  obtain ⟨v_4, ev_4, h⟩ := zbind h
  refine zo_iald 76 d_Mo_settle_75 ev_4 rfl ?_
  refine zi_aload_n 0 d_Mo_settle_76 rfl ?_
  obtain ⟨v_5, ev_5, h⟩ := zbind h
  refine zo_getI 80 zkd_11 23 d_Mo_settle_77 ev_5 rfl tw_1254 rfl ?_
  obtain ⟨m_6, em_6, h⟩ := zbind h
  refine zo_iast 81 d_Mo_settle_80 em_6 rfl ?_
  refine zi_goto (tgt := 0) d_Mo_settle_81 rfl ?_
  refine zi_lo [(0, .ref a0), (1, .int x1)] [0, 1] rfl ?_
  exact hr0 a0 x1 m_6 h
theorem K_Mo_settle_L0 (n : Nat) (E : zE) (S : zS) (r0 : Nat × Int32 × zH → Option (zH)) (a0 : Nat) (x1 : Int32) (M : zH) (M' : zH) (hr0 : ∀ (a0 : Nat) (x1 : Int32) (M : zH), r0 (a0, x1, M) = some M' → zG E Y_Mo_settle (none, S, M') 0 [(0, .ref a0), (1, .int x1)] [] S M 0 0) (h : F_Mo_settle_L0 n E S r0 a0 x1 M = some M') : zG E Y_Mo_settle (none, S, M') 0 [(0, .ref a0), (1, .int x1)] [] S M 0 0 := by
  unfold F_Mo_settle_L0 at h
  refine zi_aload_n 0 d_Mo_settle_0 rfl ?_
  obtain ⟨v_7, ev_7, h⟩ := zbind h
  refine zo_getI 4 zkd_11 29 d_Mo_settle_1 ev_7 rfl tw_1260 rfl ?_
  refine zi_if_le (tgt := 101) d_Mo_settle_4 rfl (fun c_8 => ?_) (fun c_8 => ?_)
  · rw [if_pos c_8] at h
    cases h
    exact zo_ret d_Mo_settle_101 (Nat.le_of_ble_eq_true rfl) (Nat.le_of_ble_eq_true rfl) rfl
  · rw [if_neg c_8] at h
    refine zi_aload_n 0 d_Mo_settle_7 rfl ?_
    obtain ⟨b_9, eb_9, h⟩ := zbind h
    refine zo_getR 11 zkd_11 27 d_Mo_settle_8 eb_9 rfl tw_1258 rfl ?_
    refine zi_aload_n 0 d_Mo_settle_11 rfl ?_
    obtain ⟨v_10, ev_10, h⟩ := zbind h
    refine zo_getI 15 zkd_11 29 d_Mo_settle_12 ev_10 rfl tw_1260 rfl ?_
    refine zi_iconst 1 d_Mo_settle_15 rfl ?_
    refine zi_isub d_Mo_settle_16 ?_
    obtain ⟨v_11, ev_11, h⟩ := zbind h
    refine zo_iald 18 d_Mo_settle_17 ev_11 rfl ?_
    obtain ⟨q_12, eq_12, h⟩ := zbind h
    refine zo_stat (k' := 0) (n' := 0) 21 [.int v_11] [] [.int q_12.1] (C_Mo_binds n E S v_11 M q_12.1 q_12.2 eq_12) d_Mo_settle_18 tw_1655 tw_1653 tw_1654 tw_13 dd_Mo_binds ⟨Nat.le_of_ble_eq_true rfl, Nat.le_of_ble_eq_true rfl, Nat.le_of_ble_eq_true rfl, Nat.le_of_ble_eq_true rfl⟩ (Nat.le_of_ble_eq_true rfl) rfl rfl rfl rfl ?_
    refine zi_iload_n 1 d_Mo_settle_21 rfl ?_
    refine zi_icmp_lt (tgt := 101) d_Mo_settle_22 rfl (fun c_13 => ?_) (fun c_13 => ?_)
    · rw [if_pos c_13] at h
      cases h
      exact zo_ret d_Mo_settle_101 (Nat.le_of_ble_eq_true rfl) (Nat.le_of_ble_eq_true rfl) rfl
    · rw [if_neg c_13] at h
      refine zi_aload_n 0 d_Mo_settle_25 rfl ?_
      refine zi_dup d_Mo_settle_26 rfl ?_
      obtain ⟨v_14, ev_14, h⟩ := zbind h
      refine zo_getI 30 zkd_11 29 d_Mo_settle_27 ev_14 rfl tw_1260 rfl ?_
      refine zi_iconst 1 d_Mo_settle_30 rfl ?_
      refine zi_isub d_Mo_settle_31 ?_
      obtain ⟨m_15, em_15, h⟩ := zbind h
      refine zo_putI 35 zkd_11 29 d_Mo_settle_32 em_15 rfl rfl rfl tw_1260 rfl ?_
      refine zi_aload_n 0 d_Mo_settle_35 rfl ?_
      refine zo_getR 39 zkd_11 27 d_Mo_settle_36 eb_9 rfl tw_1258 rfl ?_
      refine zi_aload_n 0 d_Mo_settle_39 rfl ?_
      obtain ⟨v_16, ev_16, h⟩ := zbind h
      refine zo_getI 43 zkd_11 29 d_Mo_settle_40 ev_16 rfl tw_1260 rfl ?_
      obtain ⟨v_17, ev_17, h⟩ := zbind h
      refine zo_iald 44 d_Mo_settle_43 ev_17 rfl ?_
      refine zi_bipush 29 d_Mo_settle_44 rfl ?_
      refine zi_icmp_eq (tgt := 63) d_Mo_settle_46 rfl (fun c_18 => ?_) (fun c_18 => ?_)
      · rw [if_pos c_18] at h
        refine zi_lo [(0, .ref a0), (1, .int x1)] [0, 1] rfl ?_
        exact K_Mo_settle_b63 n E S r0 a0 x1 m_15 M' hr0 h
      · rw [if_neg c_18] at h
        refine zi_aload_n 0 d_Mo_settle_49 rfl ?_
        refine zo_getR 53 zkd_11 27 d_Mo_settle_50 eb_9 rfl tw_1258 rfl ?_
        refine zi_aload_n 0 d_Mo_settle_53 rfl ?_
        obtain ⟨v_19, ev_19, h⟩ := zbind h
        refine zo_getI 57 zkd_11 29 d_Mo_settle_54 ev_19 rfl tw_1260 rfl ?_
        obtain ⟨v_20, ev_20, h⟩ := zbind h
        refine zo_iald 58 d_Mo_settle_57 ev_20 rfl ?_
        refine zi_bipush 30 d_Mo_settle_58 rfl ?_
        refine zi_icmp_ne (tgt := 84) d_Mo_settle_60 rfl (fun c_21 => ?_) (fun c_21 => ?_)
        · rw [if_neg c_21] at h
          refine zi_aload_n 0 d_Mo_settle_84 rfl ?_
          refine zi_aload_n 0 d_Mo_settle_85 rfl ?_
          refine zo_getR 89 zkd_11 27 d_Mo_settle_86 eb_9 rfl tw_1258 rfl ?_
          refine zi_aload_n 0 d_Mo_settle_89 rfl ?_
          obtain ⟨v_22, ev_22, h⟩ := zbind h
          refine zo_getI 93 zkd_11 29 d_Mo_settle_90 ev_22 rfl tw_1260 rfl ?_
          obtain ⟨v_23, ev_23, h⟩ := zbind h
          refine zo_iald 94 d_Mo_settle_93 ev_23 rfl ?_
          refine zi_iconst 0 d_Mo_settle_94 rfl ?_
          obtain ⟨q_24, eq_24, h⟩ := zbind h
          refine zo_virt (k' := 0) (n' := 0) 98 [.int v_23, .int 0] [] [] zkd_11 (zgI_s ev_7).1 (C_Mo_emit n E S a0 v_23 0 m_15 q_24 eq_24) d_Mo_settle_95 tw_1643 tw_1640 tw_1642 ts_69 tw_13 dd_Mo_emit ⟨Nat.le_of_ble_eq_true rfl, Nat.le_of_ble_eq_true rfl, Nat.le_of_ble_eq_true rfl, Nat.le_of_ble_eq_true rfl⟩ (Nat.le_of_ble_eq_true rfl) rfl rfl rfl rfl ?_
          refine zi_goto (tgt := 0) d_Mo_settle_98 rfl ?_
          refine zi_lo [(0, .ref a0), (1, .int x1)] [0, 1] rfl ?_
          exact hr0 a0 x1 q_24 h
        · rw [if_pos c_21] at h
          refine zi_lo [(0, .ref a0), (1, .int x1)] [0, 1] rfl ?_
          exact K_Mo_settle_b63 n E S r0 a0 x1 m_15 M' hr0 h
theorem K_Mo_settle_b0 (n : Nat) (E : zE) (S : zS) (a0 : Nat) (x1 : Int32) (M : zH) (M' : zH)  (h : F_Mo_settle_b0 n E S (a0, x1, M) = some M') : zG E Y_Mo_settle (none, S, M') 0 [(0, .ref a0), (1, .int x1)] [] S M 0 0 := by
  have key : ∀ (k : Nat) (a0 : Nat) (x1 : Int32) (M : zH), zfix (fun r0 s => F_Mo_settle_L0 n E S r0 s.1 s.2.1 s.2.2) k (a0, x1, M) = some M' → zG E Y_Mo_settle (none, S, M') 0 [(0, .ref a0), (1, .int x1)] [] S M 0 0 := by
    intro k
    induction k with
    | zero => intro a0 x1 M h; cases h
    | succ k ih => intro a0 x1 M h; exact K_Mo_settle_L0 n E S _ a0 x1 M M'  (fun a0 x1 M h => ih a0 x1 M h) h
  exact key n a0 x1 M h
theorem K_Mo_settle (n : Nat) (E : zE) (S : zS) (a0 : Nat) (x1 : Int32) (M : zH) (M' : zH)  (h : F_Mo_settle n E S a0 x1 M = some M') : zG E Y_Mo_settle (none, S, M') 0 [(0, .ref a0), (1, .int x1)] [] S M 0 0 := by
  unfold F_Mo_settle at h
  refine zi_lo [(0, .ref a0), (1, .int x1)] [0, 1] rfl ?_
  exact K_Mo_settle_b0 n E S a0 x1 M M'  h
theorem C_Mo_settle (n : Nat) (E : zE) (S : zS) (a0 : Nat) (x1 : Int32) (M : zH) (M' : zH) (h : F_Mo_settle n E S a0 x1 M = some M') : zC E Y_Mo_settle [.ref a0, .int x1] S M (none, S, M') :=
  zC.of (Or.inl (show plainName "NightColanderModel" = true by decide)) (Nat.le_of_ble_eq_true rfl) (trivial) (K_Mo_settle n E S a0 x1 M M' h)
theorem d_Mo_behindSum_0 : decode (yB Y_Mo_behindSum) 0 = .ok (.aload_n 0, 1) := by decide +kernel
theorem d_Mo_behindSum_1 : decode (yB Y_Mo_behindSum) 1 = .ok (.bipush 43, 2) := by decide +kernel
theorem d_Mo_behindSum_3 : decode (yB Y_Mo_behindSum) 3 = .ok (.invokevirtual 325, 3) := by decide +kernel
theorem d_Mo_behindSum_6 : decode (yB Y_Mo_behindSum) 6 = .ok (.ifCond .eq 8, 3) := by decide +kernel
theorem d_Mo_behindSum_9 : decode (yB Y_Mo_behindSum) 9 = .ok (.bipush 20, 2) := by decide +kernel
theorem d_Mo_behindSum_11 : decode (yB Y_Mo_behindSum) 11 = .ok (.goto 60, 3) := by decide +kernel
theorem d_Mo_behindSum_14 : decode (yB Y_Mo_behindSum) 14 = .ok (.aload_n 0, 1) := by decide +kernel
theorem d_Mo_behindSum_15 : decode (yB Y_Mo_behindSum) 15 = .ok (.bipush 45, 2) := by decide +kernel
theorem d_Mo_behindSum_17 : decode (yB Y_Mo_behindSum) 17 = .ok (.invokevirtual 325, 3) := by decide +kernel
theorem d_Mo_behindSum_20 : decode (yB Y_Mo_behindSum) 20 = .ok (.ifCond .eq 8, 3) := by decide +kernel
theorem d_Mo_behindSum_23 : decode (yB Y_Mo_behindSum) 23 = .ok (.bipush 21, 2) := by decide +kernel
theorem d_Mo_behindSum_25 : decode (yB Y_Mo_behindSum) 25 = .ok (.goto 46, 3) := by decide +kernel
theorem d_Mo_behindSum_28 : decode (yB Y_Mo_behindSum) 28 = .ok (.aload_n 0, 1) := by decide +kernel
theorem d_Mo_behindSum_29 : decode (yB Y_Mo_behindSum) 29 = .ok (.bipush 42, 2) := by decide +kernel
theorem d_Mo_behindSum_31 : decode (yB Y_Mo_behindSum) 31 = .ok (.invokevirtual 325, 3) := by decide +kernel
theorem d_Mo_behindSum_34 : decode (yB Y_Mo_behindSum) 34 = .ok (.ifCond .eq 8, 3) := by decide +kernel
theorem d_Mo_behindSum_37 : decode (yB Y_Mo_behindSum) 37 = .ok (.bipush 22, 2) := by decide +kernel
theorem d_Mo_behindSum_39 : decode (yB Y_Mo_behindSum) 39 = .ok (.goto 32, 3) := by decide +kernel
theorem d_Mo_behindSum_42 : decode (yB Y_Mo_behindSum) 42 = .ok (.aload_n 0, 1) := by decide +kernel
theorem d_Mo_behindSum_43 : decode (yB Y_Mo_behindSum) 43 = .ok (.bipush 47, 2) := by decide +kernel
theorem d_Mo_behindSum_45 : decode (yB Y_Mo_behindSum) 45 = .ok (.invokevirtual 325, 3) := by decide +kernel
theorem d_Mo_behindSum_48 : decode (yB Y_Mo_behindSum) 48 = .ok (.ifCond .eq 8, 3) := by decide +kernel
theorem d_Mo_behindSum_51 : decode (yB Y_Mo_behindSum) 51 = .ok (.bipush 23, 2) := by decide +kernel
theorem d_Mo_behindSum_53 : decode (yB Y_Mo_behindSum) 53 = .ok (.goto 18, 3) := by decide +kernel
theorem d_Mo_behindSum_56 : decode (yB Y_Mo_behindSum) 56 = .ok (.aload_n 0, 1) := by decide +kernel
theorem d_Mo_behindSum_57 : decode (yB Y_Mo_behindSum) 57 = .ok (.bipush 37, 2) := by decide +kernel
theorem d_Mo_behindSum_59 : decode (yB Y_Mo_behindSum) 59 = .ok (.invokevirtual 325, 3) := by decide +kernel
theorem d_Mo_behindSum_62 : decode (yB Y_Mo_behindSum) 62 = .ok (.ifCond .eq 8, 3) := by decide +kernel
theorem d_Mo_behindSum_65 : decode (yB Y_Mo_behindSum) 65 = .ok (.bipush 24, 2) := by decide +kernel
theorem d_Mo_behindSum_67 : decode (yB Y_Mo_behindSum) 67 = .ok (.goto 4, 3) := by decide +kernel
theorem d_Mo_behindSum_70 : decode (yB Y_Mo_behindSum) 70 = .ok (.iconst (-1), 1) := by decide +kernel
theorem d_Mo_behindSum_71 : decode (yB Y_Mo_behindSum) 71 = .ok (.istore_n 2, 1) := by decide +kernel
theorem d_Mo_behindSum_72 : decode (yB Y_Mo_behindSum) 72 = .ok (.iload_n 2, 1) := by decide +kernel
theorem d_Mo_behindSum_73 : decode (yB Y_Mo_behindSum) 73 = .ok (.iconst (-1), 1) := by decide +kernel
theorem d_Mo_behindSum_74 : decode (yB Y_Mo_behindSum) 74 = .ok (.if_icmp .eq 23, 3) := by decide +kernel
theorem d_Mo_behindSum_77 : decode (yB Y_Mo_behindSum) 77 = .ok (.aload_n 0, 1) := by decide +kernel
theorem d_Mo_behindSum_78 : decode (yB Y_Mo_behindSum) 78 = .ok (.iload_n 2, 1) := by decide +kernel
theorem d_Mo_behindSum_79 : decode (yB Y_Mo_behindSum) 79 = .ok (.invokestatic 297, 3) := by decide +kernel
theorem d_Mo_behindSum_82 : decode (yB Y_Mo_behindSum) 82 = .ok (.invokevirtual 358, 3) := by decide +kernel
theorem d_Mo_behindSum_85 : decode (yB Y_Mo_behindSum) 85 = .ok (.aload_n 0, 1) := by decide +kernel
theorem d_Mo_behindSum_86 : decode (yB Y_Mo_behindSum) 86 = .ok (.iload_n 2, 1) := by decide +kernel
theorem d_Mo_behindSum_87 : decode (yB Y_Mo_behindSum) 87 = .ok (.iconst 0, 1) := by decide +kernel
theorem d_Mo_behindSum_88 : decode (yB Y_Mo_behindSum) 88 = .ok (.invokevirtual 319, 3) := by decide +kernel
theorem d_Mo_behindSum_91 : decode (yB Y_Mo_behindSum) 91 = .ok (.aload_n 0, 1) := by decide +kernel
theorem d_Mo_behindSum_92 : decode (yB Y_Mo_behindSum) 92 = .ok (.invokevirtual 260, 3) := by decide +kernel
theorem d_Mo_behindSum_95 : decode (yB Y_Mo_behindSum) 95 = .ok (.iconst 1, 1) := by decide +kernel
theorem d_Mo_behindSum_96 : decode (yB Y_Mo_behindSum) 96 = .ok (.ireturn, 1) := by decide +kernel
theorem d_Mo_behindSum_97 : decode (yB Y_Mo_behindSum) 97 = .ok (.aload_n 0, 1) := by decide +kernel
theorem d_Mo_behindSum_98 : decode (yB Y_Mo_behindSum) 98 = .ok (.invokevirtual 361, 3) := by decide +kernel
theorem d_Mo_behindSum_101 : decode (yB Y_Mo_behindSum) 101 = .ok (.istore_n 3, 1) := by decide +kernel
theorem d_Mo_behindSum_102 : decode (yB Y_Mo_behindSum) 102 = .ok (.iload_n 3, 1) := by decide +kernel
theorem d_Mo_behindSum_103 : decode (yB Y_Mo_behindSum) 103 = .ok (.bipush 32, 2) := by decide +kernel
theorem d_Mo_behindSum_105 : decode (yB Y_Mo_behindSum) 105 = .ok (.if_icmp .ne 47, 3) := by decide +kernel
theorem d_Mo_behindSum_108 : decode (yB Y_Mo_behindSum) 108 = .ok (.aload_n 0, 1) := by decide +kernel
theorem d_Mo_behindSum_109 : decode (yB Y_Mo_behindSum) 109 = .ok (.aload_n 0, 1) := by decide +kernel
theorem d_Mo_behindSum_110 : decode (yB Y_Mo_behindSum) 110 = .ok (.bipush 93, 2) := by decide +kernel
theorem d_Mo_behindSum_112 : decode (yB Y_Mo_behindSum) 112 = .ok (.invokevirtual 325, 3) := by decide +kernel
theorem d_Mo_behindSum_115 : decode (yB Y_Mo_behindSum) 115 = .ok (.invokevirtual 287, 3) := by decide +kernel
theorem d_Mo_behindSum_118 : decode (yB Y_Mo_behindSum) 118 = .ok (.aload_n 0, 1) := by decide +kernel
theorem d_Mo_behindSum_119 : decode (yB Y_Mo_behindSum) 119 = .ok (.getfield 256, 3) := by decide +kernel
theorem d_Mo_behindSum_122 : decode (yB Y_Mo_behindSum) 122 = .ok (.ifCond .ne 28, 3) := by decide +kernel
theorem d_Mo_behindSum_125 : decode (yB Y_Mo_behindSum) 125 = .ok (.aload_n 0, 1) := by decide +kernel
theorem d_Mo_behindSum_126 : decode (yB Y_Mo_behindSum) 126 = .ok (.iconst 5, 1) := by decide +kernel
theorem d_Mo_behindSum_127 : decode (yB Y_Mo_behindSum) 127 = .ok (.invokevirtual 358, 3) := by decide +kernel
theorem d_Mo_behindSum_130 : decode (yB Y_Mo_behindSum) 130 = .ok (.aload_n 0, 1) := by decide +kernel
theorem d_Mo_behindSum_131 : decode (yB Y_Mo_behindSum) 131 = .ok (.dup, 1) := by decide +kernel
theorem d_Mo_behindSum_132 : decode (yB Y_Mo_behindSum) 132 = .ok (.getfield 294, 3) := by decide +kernel
theorem d_Mo_behindSum_135 : decode (yB Y_Mo_behindSum) 135 = .ok (.iconst 1, 1) := by decide +kernel
theorem d_Mo_behindSum_136 : decode (yB Y_Mo_behindSum) 136 = .ok (.isub, 1) := by decide +kernel
theorem d_Mo_behindSum_137 : decode (yB Y_Mo_behindSum) 137 = .ok (.putfield 294, 3) := by decide +kernel
theorem d_Mo_behindSum_140 : decode (yB Y_Mo_behindSum) 140 = .ok (.aload_n 0, 1) := by decide +kernel
theorem d_Mo_behindSum_141 : decode (yB Y_Mo_behindSum) 141 = .ok (.dup, 1) := by decide +kernel
theorem d_Mo_behindSum_142 : decode (yB Y_Mo_behindSum) 142 = .ok (.getfield 316, 3) := by decide +kernel
theorem d_Mo_behindSum_145 : decode (yB Y_Mo_behindSum) 145 = .ok (.iconst 1, 1) := by decide +kernel
theorem d_Mo_behindSum_146 : decode (yB Y_Mo_behindSum) 146 = .ok (.isub, 1) := by decide +kernel
theorem d_Mo_behindSum_147 : decode (yB Y_Mo_behindSum) 147 = .ok (.putfield 316, 3) := by decide +kernel
theorem d_Mo_behindSum_150 : decode (yB Y_Mo_behindSum) 150 = .ok (.iconst 3, 1) := by decide +kernel
theorem d_Mo_behindSum_151 : decode (yB Y_Mo_behindSum) 151 = .ok (.ireturn, 1) := by decide +kernel
theorem d_Mo_behindSum_152 : decode (yB Y_Mo_behindSum) 152 = .ok (.iload_n 3, 1) := by decide +kernel
theorem d_Mo_behindSum_153 : decode (yB Y_Mo_behindSum) 153 = .ok (.iconst (-1), 1) := by decide +kernel
theorem d_Mo_behindSum_154 : decode (yB Y_Mo_behindSum) 154 = .ok (.if_icmp .ne 9, 3) := by decide +kernel
theorem d_Mo_behindSum_157 : decode (yB Y_Mo_behindSum) 157 = .ok (.iload_n 1, 1) := by decide +kernel
theorem d_Mo_behindSum_158 : decode (yB Y_Mo_behindSum) 158 = .ok (.ifCond .ne 5, 3) := by decide +kernel
theorem d_Mo_behindSum_161 : decode (yB Y_Mo_behindSum) 161 = .ok (.iconst 4, 1) := by decide +kernel
theorem d_Mo_behindSum_162 : decode (yB Y_Mo_behindSum) 162 = .ok (.ireturn, 1) := by decide +kernel
theorem d_Mo_behindSum_163 : decode (yB Y_Mo_behindSum) 163 = .ok (.aload_n 0, 1) := by decide +kernel
theorem d_Mo_behindSum_164 : decode (yB Y_Mo_behindSum) 164 = .ok (.invokevirtual 364, 3) := by decide +kernel
theorem d_Mo_behindSum_167 : decode (yB Y_Mo_behindSum) 167 = .ok (.ifCond .eq 5, 3) := by decide +kernel
theorem d_Mo_behindSum_170 : decode (yB Y_Mo_behindSum) 170 = .ok (.iconst 2, 1) := by decide +kernel
theorem d_Mo_behindSum_171 : decode (yB Y_Mo_behindSum) 171 = .ok (.ireturn, 1) := by decide +kernel
theorem d_Mo_behindSum_172 : decode (yB Y_Mo_behindSum) 172 = .ok (.aload_n 0, 1) := by decide +kernel
theorem d_Mo_behindSum_173 : decode (yB Y_Mo_behindSum) 173 = .ok (.bipush 60, 2) := by decide +kernel
theorem d_Mo_behindSum_175 : decode (yB Y_Mo_behindSum) 175 = .ok (.invokevirtual 325, 3) := by decide +kernel
theorem d_Mo_behindSum_178 : decode (yB Y_Mo_behindSum) 178 = .ok (.ifCond .eq 8, 3) := by decide +kernel
theorem d_Mo_behindSum_181 : decode (yB Y_Mo_behindSum) 181 = .ok (.bipush 25, 2) := by decide +kernel
theorem d_Mo_behindSum_183 : decode (yB Y_Mo_behindSum) 183 = .ok (.goto 19, 3) := by decide +kernel
theorem d_Mo_behindSum_186 : decode (yB Y_Mo_behindSum) 186 = .ok (.aload_n 0, 1) := by decide +kernel
theorem d_Mo_behindSum_187 : decode (yB Y_Mo_behindSum) 187 = .ok (.bipush 62, 2) := by decide +kernel
theorem d_Mo_behindSum_189 : decode (yB Y_Mo_behindSum) 189 = .ok (.invokevirtual 325, 3) := by decide +kernel
theorem d_Mo_behindSum_192 : decode (yB Y_Mo_behindSum) 192 = .ok (.ifCond .eq 8, 3) := by decide +kernel
theorem d_Mo_behindSum_195 : decode (yB Y_Mo_behindSum) 195 = .ok (.bipush 26, 2) := by decide +kernel
theorem d_Mo_behindSum_197 : decode (yB Y_Mo_behindSum) 197 = .ok (.goto 5, 3) := by decide +kernel
theorem d_Mo_behindSum_200 : decode (yB Y_Mo_behindSum) 200 = .ok (.bipush 27, 2) := by decide +kernel
theorem d_Mo_behindSum_202 : decode (yB Y_Mo_behindSum) 202 = .ok (.istore_n 2, 1) := by decide +kernel
theorem d_Mo_behindSum_203 : decode (yB Y_Mo_behindSum) 203 = .ok (.aload_n 0, 1) := by decide +kernel
theorem d_Mo_behindSum_204 : decode (yB Y_Mo_behindSum) 204 = .ok (.iload_n 2, 1) := by decide +kernel
theorem d_Mo_behindSum_205 : decode (yB Y_Mo_behindSum) 205 = .ok (.bipush 27, 2) := by decide +kernel
theorem d_Mo_behindSum_207 : decode (yB Y_Mo_behindSum) 207 = .ok (.if_icmp .ne 12, 3) := by decide +kernel
theorem d_Mo_behindSum_210 : decode (yB Y_Mo_behindSum) 210 = .ok (.aload_n 0, 1) := by decide +kernel
theorem d_Mo_behindSum_211 : decode (yB Y_Mo_behindSum) 211 = .ok (.bipush 61, 2) := by decide +kernel
theorem d_Mo_behindSum_213 : decode (yB Y_Mo_behindSum) 213 = .ok (.invokevirtual 325, 3) := by decide +kernel
theorem d_Mo_behindSum_216 : decode (yB Y_Mo_behindSum) 216 = .ok (.ifCond .eq 7, 3) := by decide +kernel
theorem d_Mo_behindSum_219 : decode (yB Y_Mo_behindSum) 219 = .ok (.iconst 1, 1) := by decide +kernel
theorem d_Mo_behindSum_220 : decode (yB Y_Mo_behindSum) 220 = .ok (.goto 4, 3) := by decide +kernel
theorem d_Mo_behindSum_223 : decode (yB Y_Mo_behindSum) 223 = .ok (.iconst 0, 1) := by decide +kernel
theorem d_Mo_behindSum_224 : decode (yB Y_Mo_behindSum) 224 = .ok (.invokevirtual 287, 3) := by decide +kernel
theorem d_Mo_behindSum_227 : decode (yB Y_Mo_behindSum) 227 = .ok (.aload_n 0, 1) := by decide +kernel
theorem d_Mo_behindSum_228 : decode (yB Y_Mo_behindSum) 228 = .ok (.getfield 256, 3) := by decide +kernel
theorem d_Mo_behindSum_231 : decode (yB Y_Mo_behindSum) 231 = .ok (.ifCond .ne 14, 3) := by decide +kernel
theorem d_Mo_behindSum_234 : decode (yB Y_Mo_behindSum) 234 = .ok (.aload_n 0, 1) := by decide +kernel
theorem d_Mo_behindSum_235 : decode (yB Y_Mo_behindSum) 235 = .ok (.iconst 5, 1) := by decide +kernel
theorem d_Mo_behindSum_236 : decode (yB Y_Mo_behindSum) 236 = .ok (.invokevirtual 358, 3) := by decide +kernel
theorem d_Mo_behindSum_239 : decode (yB Y_Mo_behindSum) 239 = .ok (.aload_n 0, 1) := by decide +kernel
theorem d_Mo_behindSum_240 : decode (yB Y_Mo_behindSum) 240 = .ok (.iload_n 2, 1) := by decide +kernel
theorem d_Mo_behindSum_241 : decode (yB Y_Mo_behindSum) 241 = .ok (.iconst 0, 1) := by decide +kernel
theorem d_Mo_behindSum_242 : decode (yB Y_Mo_behindSum) 242 = .ok (.invokevirtual 319, 3) := by decide +kernel
theorem d_Mo_behindSum_245 : decode (yB Y_Mo_behindSum) 245 = .ok (.iconst 1, 1) := by decide +kernel
theorem d_Mo_behindSum_246 : decode (yB Y_Mo_behindSum) 246 = .ok (.ireturn, 1) := by decide +kernel
def F_Mo_behindSum_b224 (n : Nat) (E : zE) (S : zS) (a0 : Nat) (x2 : Int32) (s0 : Int32) (u1 : Nat) (M : zH) : Option (Int32 × zH) :=
  (zck S u1 11).bind fun u_1 =>
  (F_Mo_must n E S u1 s0 M).bind fun q_2 =>
  (zgI S q_2 a0 11 19).bind fun v_3 =>
  if v_3 = 0 then
    (F_Mo_settle n E S a0 5 q_2).bind fun q_5 =>
    (F_Mo_push n E S a0 x2 0 q_5).bind fun q_6 =>
    some (1, q_6)
  else
    some (1, q_2)
def F_Mo_behindSum_b219 (n : Nat) (E : zE) (S : zS) (a0 : Nat) (x2 : Int32) (u0 : Nat) (M : zH) : Option (Int32 × zH) :=
  F_Mo_behindSum_b224 n E S a0 x2 1 u0 M
def F_Mo_behindSum_b202 (n : Nat) (E : zE) (S : zS) (a0 : Nat) (s0 : Int32) (M : zH) : Option (Int32 × zH) :=
  if s0 = 27 then
    (zck S a0 11).bind fun u_8 =>
    (F_Mo_isSign n E S a0 61 M).bind fun q_9 =>
    if q_9.1 = true then
      F_Mo_behindSum_b219 n E S a0 s0 a0 q_9.2
    else
      F_Mo_behindSum_b224 n E S a0 s0 0 a0 q_9.2
  else
    F_Mo_behindSum_b219 n E S a0 s0 a0 M
def F_Mo_behindSum_b163 (n : Nat) (E : zE) (S : zS) (a0 : Nat) (M : zH) : Option (Int32 × zH) :=
  (zck S a0 11).bind fun u_11 =>
  (F_Mo_isCompared n E S a0 M).bind fun q_12 =>
  if q_12.1 = true then
    some (2, q_12.2)
  else
    (F_Mo_isSign n E S a0 60 q_12.2).bind fun q_14 =>
    if q_14.1 = true then
      F_Mo_behindSum_b202 n E S a0 25 q_14.2
    else
      (F_Mo_isSign n E S a0 62 q_14.2).bind fun q_16 =>
      if q_16.1 = true then
        F_Mo_behindSum_b202 n E S a0 26 q_16.2
      else
        F_Mo_behindSum_b202 n E S a0 27 q_16.2
def F_Mo_behindSum_b71 (n : Nat) (E : zE) (S : zS) (a0 : Nat) (x1 : Int32) (s0 : Int32) (M : zH) : Option (Int32 × zH) :=
  if s0 = (-1) then
    (zck S a0 11).bind fun u_19 =>
    (F_Mo_inner n E S a0 M).bind fun q_20 =>
    if q_20.1 = 32 then
      (F_Mo_isSign n E S a0 93 q_20.2).bind fun q_22 =>
      (F_Mo_must n E S a0 (bI q_22.1) q_22.2).bind fun q_23 =>
      (zgI S q_23 a0 11 19).bind fun v_24 =>
      if v_24 = 0 then
        (F_Mo_settle n E S a0 5 q_23).bind fun q_26 =>
        (zgI S q_26 a0 11 29).bind fun v_27 =>
        (zpI S q_26 a0 11 29 (v_27 - 1)).bind fun m_28 =>
        (zgI S m_28 a0 11 30).bind fun v_29 =>
        (zpI S m_28 a0 11 30 (v_29 - 1)).bind fun m_30 =>
        some (3, m_30)
      else
        some (3, q_23)
    else
      if q_20.1 = (-1) then
        if x1 = 0 then
          some (4, q_20.2)
        else
          F_Mo_behindSum_b163 n E S a0 q_20.2
      else
        F_Mo_behindSum_b163 n E S a0 q_20.2
  else
    (F_Mo_binds n E S s0 M).bind fun q_33 =>
    (zck S a0 11).bind fun u_34 =>
    (F_Mo_settle n E S a0 q_33.1 q_33.2).bind fun q_35 =>
    (F_Mo_push n E S a0 s0 0 q_35).bind fun q_36 =>
    (F_Mo_next n E S a0 q_36).bind fun q_37 =>
    some (1, q_37)
def F_Mo_behindSum (n : Nat) (E : zE) (S : zS) (a0 : Nat) (x1 : Int32) (M : zH) : Option (Int32 × zH) :=
  (zck S a0 11).bind fun u_38 =>
  (F_Mo_isSign n E S a0 43 M).bind fun q_39 =>
  if q_39.1 = true then
    F_Mo_behindSum_b71 n E S a0 x1 20 q_39.2
  else
    (F_Mo_isSign n E S a0 45 q_39.2).bind fun q_41 =>
    if q_41.1 = true then
      F_Mo_behindSum_b71 n E S a0 x1 21 q_41.2
    else
      (F_Mo_isSign n E S a0 42 q_41.2).bind fun q_43 =>
      if q_43.1 = true then
        F_Mo_behindSum_b71 n E S a0 x1 22 q_43.2
      else
        (F_Mo_isSign n E S a0 47 q_43.2).bind fun q_45 =>
        if q_45.1 = true then
          F_Mo_behindSum_b71 n E S a0 x1 23 q_45.2
        else
          (F_Mo_isSign n E S a0 37 q_45.2).bind fun q_47 =>
          if q_47.1 = true then
            F_Mo_behindSum_b71 n E S a0 x1 24 q_47.2
          else
            F_Mo_behindSum_b71 n E S a0 x1 (-1) q_47.2
theorem K_Mo_behindSum_b224 (n : Nat) (E : zE) (S : zS) (a0 : Nat) (x2 : Int32) (s0 : Int32) (u1 : Nat) (M : zH) (r : Int32) (M' : zH)  (h : F_Mo_behindSum_b224 n E S a0 x2 s0 u1 M = some (r, M')) : zG E Y_Mo_behindSum (some (.int r), S, M') 224 [(0, .ref a0), (2, .int x2)] [.int s0, .ref u1] S M 0 0 := by
  unfold F_Mo_behindSum_b224 at h
  obtain ⟨u_1, eu_1, h⟩ := zbind h
  obtain ⟨q_2, eq_2, h⟩ := zbind h
  refine zo_virt (k' := 0) (n' := 0) 227 [.int s0] [] [] zkd_11 (zck_s eu_1) (C_Mo_must n E S u1 s0 M q_2 eq_2) d_Mo_behindSum_224 tw_1601 tw_1598 tw_1600 ts_59 tw_13 dd_Mo_must ⟨Nat.le_of_ble_eq_true rfl, Nat.le_of_ble_eq_true rfl, Nat.le_of_ble_eq_true rfl, Nat.le_of_ble_eq_true rfl⟩ (Nat.le_of_ble_eq_true rfl) rfl rfl rfl rfl ?_
  refine zi_aload_n 0 d_Mo_behindSum_227 rfl ?_
  obtain ⟨v_3, ev_3, h⟩ := zbind h
  refine zo_getI 231 zkd_11 19 d_Mo_behindSum_228 ev_3 rfl tw_1250 rfl ?_
  refine zi_if_ne (tgt := 245) d_Mo_behindSum_231 rfl (fun c_4 => ?_) (fun c_4 => ?_)
  · rw [if_neg c_4] at h
    refine zi_iconst 1 d_Mo_behindSum_245 rfl ?_
    cases h
    exact zo_ret d_Mo_behindSum_246 (Nat.le_of_ble_eq_true rfl) (Nat.le_of_ble_eq_true rfl) rfl
  · rw [if_pos c_4] at h
    refine zi_aload_n 0 d_Mo_behindSum_234 rfl ?_
    refine zi_iconst 5 d_Mo_behindSum_235 rfl ?_
    obtain ⟨q_5, eq_5, h⟩ := zbind h
    refine zo_virt (k' := 0) (n' := 0) 239 [.int 5] [] [] zkd_11 (zgI_s ev_3).1 (C_Mo_settle n E S a0 5 q_2 q_5 eq_5) d_Mo_behindSum_236 tw_1659 tw_1656 tw_1658 ts_72 tw_13 dd_Mo_settle ⟨Nat.le_of_ble_eq_true rfl, Nat.le_of_ble_eq_true rfl, Nat.le_of_ble_eq_true rfl, Nat.le_of_ble_eq_true rfl⟩ (Nat.le_of_ble_eq_true rfl) rfl rfl rfl rfl ?_
    refine zi_aload_n 0 d_Mo_behindSum_239 rfl ?_
    refine zi_iload_n 1 d_Mo_behindSum_240 rfl ?_
    refine zi_iconst 0 d_Mo_behindSum_241 rfl ?_
    obtain ⟨q_6, eq_6, h⟩ := zbind h
    refine zo_virt (k' := 0) (n' := 0) 245 [.int x2, .int 0] [] [] zkd_11 (zgI_s ev_3).1 (C_Mo_push n E S a0 x2 0 q_5 q_6 eq_6) d_Mo_behindSum_242 tw_1614 tw_1611 tw_1613 ts_62 tw_13 dd_Mo_push ⟨Nat.le_of_ble_eq_true rfl, Nat.le_of_ble_eq_true rfl, Nat.le_of_ble_eq_true rfl, Nat.le_of_ble_eq_true rfl⟩ (Nat.le_of_ble_eq_true rfl) rfl rfl rfl rfl ?_
    refine zi_iconst 1 d_Mo_behindSum_245 rfl ?_
    cases h
    exact zo_ret d_Mo_behindSum_246 (Nat.le_of_ble_eq_true rfl) (Nat.le_of_ble_eq_true rfl) rfl
theorem K_Mo_behindSum_b219 (n : Nat) (E : zE) (S : zS) (a0 : Nat) (x2 : Int32) (u0 : Nat) (M : zH) (r : Int32) (M' : zH)  (h : F_Mo_behindSum_b219 n E S a0 x2 u0 M = some (r, M')) : zG E Y_Mo_behindSum (some (.int r), S, M') 219 [(0, .ref a0), (2, .int x2)] [.ref u0] S M 0 0 := by
  unfold F_Mo_behindSum_b219 at h
  refine zi_iconst 1 d_Mo_behindSum_219 rfl ?_
  refine zi_goto (tgt := 224) d_Mo_behindSum_220 rfl ?_
  refine zi_lo [(0, .ref a0), (2, .int x2)] [0, 1] rfl ?_
  exact K_Mo_behindSum_b224 n E S a0 x2 1 u0 M r M'  h
theorem K_Mo_behindSum_b202 (n : Nat) (E : zE) (S : zS) (a0 : Nat) (s0 : Int32) (M : zH) (r : Int32) (M' : zH)  (h : F_Mo_behindSum_b202 n E S a0 s0 M = some (r, M')) : zG E Y_Mo_behindSum (some (.int r), S, M') 202 [(0, .ref a0)] [.int s0] S M 0 0 := by
  unfold F_Mo_behindSum_b202 at h
  refine zi_istore_n [(2, .int s0), (0, .ref a0)] d_Mo_behindSum_202 (by decide) rfl ?_
  refine zi_aload_n 1 d_Mo_behindSum_203 rfl ?_
  refine zi_iload_n 0 d_Mo_behindSum_204 rfl ?_
  refine zi_bipush 27 d_Mo_behindSum_205 rfl ?_
  refine zi_icmp_ne (tgt := 219) d_Mo_behindSum_207 rfl (fun c_7 => ?_) (fun c_7 => ?_)
  · rw [if_neg c_7] at h
    refine zi_lo [(0, .ref a0), (2, .int s0)] [1, 0] rfl ?_
    exact K_Mo_behindSum_b219 n E S a0 s0 a0 M r M'  h
  · rw [if_pos c_7] at h
    refine zi_aload_n 1 d_Mo_behindSum_210 rfl ?_
    refine zi_bipush 61 d_Mo_behindSum_211 rfl ?_
    obtain ⟨u_8, eu_8, h⟩ := zbind h
    obtain ⟨q_9, eq_9, h⟩ := zbind h
    refine zo_virt (k' := 0) (n' := 0) 216 [.int 61] [.ref a0] [.int (bI q_9.1), .ref a0] zkd_11 (zck_s eu_8) (C_Mo_isSign n E S a0 61 M q_9.1 q_9.2 eq_9) d_Mo_behindSum_213 tw_1618 tw_1615 tw_1617 ts_63 tw_13 dd_Mo_isSign ⟨Nat.le_of_ble_eq_true rfl, Nat.le_of_ble_eq_true rfl, Nat.le_of_ble_eq_true rfl, Nat.le_of_ble_eq_true rfl⟩ (Nat.le_of_ble_eq_true rfl) rfl rfl rfl rfl ?_
    refine zo_ifeqB d_Mo_behindSum_216 rfl 219 rfl (fun c_10 => ?_) (fun c_10 => ?_)
    · rw [if_neg c_10] at h
      refine zi_iconst 0 d_Mo_behindSum_223 rfl ?_
      refine zi_lo [(0, .ref a0), (2, .int s0)] [1, 0] rfl ?_
      exact K_Mo_behindSum_b224 n E S a0 s0 0 a0 q_9.2 r M'  h
    · rw [if_pos c_10] at h
      refine zi_lo [(0, .ref a0), (2, .int s0)] [1, 0] rfl ?_
      exact K_Mo_behindSum_b219 n E S a0 s0 a0 q_9.2 r M'  h
theorem K_Mo_behindSum_b163 (n : Nat) (E : zE) (S : zS) (a0 : Nat) (M : zH) (r : Int32) (M' : zH)  (h : F_Mo_behindSum_b163 n E S a0 M = some (r, M')) : zG E Y_Mo_behindSum (some (.int r), S, M') 163 [(0, .ref a0)] [] S M 0 0 := by
  unfold F_Mo_behindSum_b163 at h
  refine zi_aload_n 0 d_Mo_behindSum_163 rfl ?_
  obtain ⟨u_11, eu_11, h⟩ := zbind h
  obtain ⟨q_12, eq_12, h⟩ := zbind h
  refine zo_virt (k' := 0) (n' := 0) 167 [] [] [.int (bI q_12.1)] zkd_11 (zck_s eu_11) (C_Mo_isCompared n E S a0 M q_12.1 q_12.2 eq_12) d_Mo_behindSum_164 tw_1667 tw_1664 tw_1666 ts_74 tw_13 dd_Mo_isCompared ⟨Nat.le_of_ble_eq_true rfl, Nat.le_of_ble_eq_true rfl, Nat.le_of_ble_eq_true rfl, Nat.le_of_ble_eq_true rfl⟩ (Nat.le_of_ble_eq_true rfl) rfl rfl rfl rfl ?_
  refine zo_ifeqB d_Mo_behindSum_167 rfl 170 rfl (fun c_13 => ?_) (fun c_13 => ?_)
  · rw [if_neg c_13] at h
    refine zi_aload_n 0 d_Mo_behindSum_172 rfl ?_
    refine zi_bipush 60 d_Mo_behindSum_173 rfl ?_
    obtain ⟨q_14, eq_14, h⟩ := zbind h
    refine zo_virt (k' := 0) (n' := 0) 178 [.int 60] [] [.int (bI q_14.1)] zkd_11 (zck_s eu_11) (C_Mo_isSign n E S a0 60 q_12.2 q_14.1 q_14.2 eq_14) d_Mo_behindSum_175 tw_1618 tw_1615 tw_1617 ts_63 tw_13 dd_Mo_isSign ⟨Nat.le_of_ble_eq_true rfl, Nat.le_of_ble_eq_true rfl, Nat.le_of_ble_eq_true rfl, Nat.le_of_ble_eq_true rfl⟩ (Nat.le_of_ble_eq_true rfl) rfl rfl rfl rfl ?_
    refine zo_ifeqB d_Mo_behindSum_178 rfl 181 rfl (fun c_15 => ?_) (fun c_15 => ?_)
    · rw [if_neg c_15] at h
      refine zi_aload_n 0 d_Mo_behindSum_186 rfl ?_
      refine zi_bipush 62 d_Mo_behindSum_187 rfl ?_
      obtain ⟨q_16, eq_16, h⟩ := zbind h
      refine zo_virt (k' := 0) (n' := 0) 192 [.int 62] [] [.int (bI q_16.1)] zkd_11 (zck_s eu_11) (C_Mo_isSign n E S a0 62 q_14.2 q_16.1 q_16.2 eq_16) d_Mo_behindSum_189 tw_1618 tw_1615 tw_1617 ts_63 tw_13 dd_Mo_isSign ⟨Nat.le_of_ble_eq_true rfl, Nat.le_of_ble_eq_true rfl, Nat.le_of_ble_eq_true rfl, Nat.le_of_ble_eq_true rfl⟩ (Nat.le_of_ble_eq_true rfl) rfl rfl rfl rfl ?_
      refine zo_ifeqB d_Mo_behindSum_192 rfl 195 rfl (fun c_17 => ?_) (fun c_17 => ?_)
      · rw [if_neg c_17] at h
        refine zi_bipush 27 d_Mo_behindSum_200 rfl ?_
        refine zi_lo [(0, .ref a0)] [0] rfl ?_
        exact K_Mo_behindSum_b202 n E S a0 27 q_16.2 r M'  h
      · rw [if_pos c_17] at h
        refine zi_bipush 26 d_Mo_behindSum_195 rfl ?_
        refine zi_goto (tgt := 202) d_Mo_behindSum_197 rfl ?_
        refine zi_lo [(0, .ref a0)] [0] rfl ?_
        exact K_Mo_behindSum_b202 n E S a0 26 q_16.2 r M'  h
    · rw [if_pos c_15] at h
      refine zi_bipush 25 d_Mo_behindSum_181 rfl ?_
      refine zi_goto (tgt := 202) d_Mo_behindSum_183 rfl ?_
      refine zi_lo [(0, .ref a0)] [0] rfl ?_
      exact K_Mo_behindSum_b202 n E S a0 25 q_14.2 r M'  h
  · rw [if_pos c_13] at h
    refine zi_iconst 2 d_Mo_behindSum_170 rfl ?_
    cases h
    exact zo_ret d_Mo_behindSum_171 (Nat.le_of_ble_eq_true rfl) (Nat.le_of_ble_eq_true rfl) rfl
theorem K_Mo_behindSum_b71 (n : Nat) (E : zE) (S : zS) (a0 : Nat) (x1 : Int32) (s0 : Int32) (M : zH) (r : Int32) (M' : zH)  (h : F_Mo_behindSum_b71 n E S a0 x1 s0 M = some (r, M')) : zG E Y_Mo_behindSum (some (.int r), S, M') 71 [(0, .ref a0), (1, .int x1)] [.int s0] S M 0 0 := by
  unfold F_Mo_behindSum_b71 at h
  refine zi_istore_n [(2, .int s0), (0, .ref a0), (1, .int x1)] d_Mo_behindSum_71 (by decide) rfl ?_
  refine zi_iload_n 0 d_Mo_behindSum_72 rfl ?_
  refine zi_iconst (-1) d_Mo_behindSum_73 rfl ?_
  refine zi_icmp_eq (tgt := 97) d_Mo_behindSum_74 rfl (fun c_18 => ?_) (fun c_18 => ?_)
  · rw [if_pos c_18] at h
    refine zi_aload_n 1 d_Mo_behindSum_97 rfl ?_
    obtain ⟨u_19, eu_19, h⟩ := zbind h
    obtain ⟨q_20, eq_20, h⟩ := zbind h
    refine zo_virt (k' := 0) (n' := 0) 101 [] [] [.int q_20.1] zkd_11 (zck_s eu_19) (C_Mo_inner n E S a0 M q_20.1 q_20.2 eq_20) d_Mo_behindSum_98 tw_1663 tw_1660 tw_1662 ts_73 tw_13 dd_Mo_inner ⟨Nat.le_of_ble_eq_true rfl, Nat.le_of_ble_eq_true rfl, Nat.le_of_ble_eq_true rfl, Nat.le_of_ble_eq_true rfl⟩ (Nat.le_of_ble_eq_true rfl) rfl rfl rfl rfl ?_
    refine zi_istore_n [(3, .int q_20.1), (2, .int s0), (0, .ref a0), (1, .int x1)] d_Mo_behindSum_101 (by decide) rfl ?_
    refine zi_iload_n 0 d_Mo_behindSum_102 rfl ?_
    refine zi_bipush 32 d_Mo_behindSum_103 rfl ?_
    refine zi_icmp_ne (tgt := 152) d_Mo_behindSum_105 rfl (fun c_21 => ?_) (fun c_21 => ?_)
    · rw [if_neg c_21] at h
      refine zi_iload_n 0 d_Mo_behindSum_152 rfl ?_
      refine zi_iconst (-1) d_Mo_behindSum_153 rfl ?_
      refine zi_icmp_ne (tgt := 163) d_Mo_behindSum_154 rfl (fun c_31 => ?_) (fun c_31 => ?_)
      · rw [if_neg c_31] at h
        refine zi_lo [(0, .ref a0)] [2] rfl ?_
        exact K_Mo_behindSum_b163 n E S a0 q_20.2 r M'  h
      · rw [if_pos c_31] at h
        refine zi_iload_n 3 d_Mo_behindSum_157 rfl ?_
        refine zi_if_ne (tgt := 163) d_Mo_behindSum_158 rfl (fun c_32 => ?_) (fun c_32 => ?_)
        · rw [if_neg c_32] at h
          refine zi_lo [(0, .ref a0)] [2] rfl ?_
          exact K_Mo_behindSum_b163 n E S a0 q_20.2 r M'  h
        · rw [if_pos c_32] at h
          refine zi_iconst 4 d_Mo_behindSum_161 rfl ?_
          cases h
          exact zo_ret d_Mo_behindSum_162 (Nat.le_of_ble_eq_true rfl) (Nat.le_of_ble_eq_true rfl) rfl
    · rw [if_pos c_21] at h
      refine zi_aload_n 2 d_Mo_behindSum_108 rfl ?_
      refine zi_aload_n 2 d_Mo_behindSum_109 rfl ?_
      refine zi_bipush 93 d_Mo_behindSum_110 rfl ?_
      obtain ⟨q_22, eq_22, h⟩ := zbind h
      refine zo_virt (k' := 0) (n' := 0) 115 [.int 93] [.ref a0] [.int (bI q_22.1), .ref a0] zkd_11 (zck_s eu_19) (C_Mo_isSign n E S a0 93 q_20.2 q_22.1 q_22.2 eq_22) d_Mo_behindSum_112 tw_1618 tw_1615 tw_1617 ts_63 tw_13 dd_Mo_isSign ⟨Nat.le_of_ble_eq_true rfl, Nat.le_of_ble_eq_true rfl, Nat.le_of_ble_eq_true rfl, Nat.le_of_ble_eq_true rfl⟩ (Nat.le_of_ble_eq_true rfl) rfl rfl rfl rfl ?_
      obtain ⟨q_23, eq_23, h⟩ := zbind h
      refine zo_virt (k' := 0) (n' := 0) 118 [.int (bI q_22.1)] [] [] zkd_11 (zck_s eu_19) (C_Mo_must n E S a0 (bI q_22.1) q_22.2 q_23 eq_23) d_Mo_behindSum_115 tw_1601 tw_1598 tw_1600 ts_59 tw_13 dd_Mo_must ⟨Nat.le_of_ble_eq_true rfl, Nat.le_of_ble_eq_true rfl, Nat.le_of_ble_eq_true rfl, Nat.le_of_ble_eq_true rfl⟩ (Nat.le_of_ble_eq_true rfl) rfl rfl rfl rfl ?_
      refine zi_aload_n 2 d_Mo_behindSum_118 rfl ?_
      obtain ⟨v_24, ev_24, h⟩ := zbind h
      refine zo_getI 122 zkd_11 19 d_Mo_behindSum_119 ev_24 rfl tw_1250 rfl ?_
      refine zi_if_ne (tgt := 150) d_Mo_behindSum_122 rfl (fun c_25 => ?_) (fun c_25 => ?_)
      · rw [if_neg c_25] at h
        refine zi_iconst 3 d_Mo_behindSum_150 rfl ?_
        cases h
        exact zo_ret d_Mo_behindSum_151 (Nat.le_of_ble_eq_true rfl) (Nat.le_of_ble_eq_true rfl) rfl
      · rw [if_pos c_25] at h
        refine zi_aload_n 2 d_Mo_behindSum_125 rfl ?_
        refine zi_iconst 5 d_Mo_behindSum_126 rfl ?_
        obtain ⟨q_26, eq_26, h⟩ := zbind h
        refine zo_virt (k' := 0) (n' := 0) 130 [.int 5] [] [] zkd_11 (zck_s eu_19) (C_Mo_settle n E S a0 5 q_23 q_26 eq_26) d_Mo_behindSum_127 tw_1659 tw_1656 tw_1658 ts_72 tw_13 dd_Mo_settle ⟨Nat.le_of_ble_eq_true rfl, Nat.le_of_ble_eq_true rfl, Nat.le_of_ble_eq_true rfl, Nat.le_of_ble_eq_true rfl⟩ (Nat.le_of_ble_eq_true rfl) rfl rfl rfl rfl ?_
        refine zi_aload_n 2 d_Mo_behindSum_130 rfl ?_
        refine zi_dup d_Mo_behindSum_131 rfl ?_
        obtain ⟨v_27, ev_27, h⟩ := zbind h
        refine zo_getI 135 zkd_11 29 d_Mo_behindSum_132 ev_27 rfl tw_1260 rfl ?_
        refine zi_iconst 1 d_Mo_behindSum_135 rfl ?_
        refine zi_isub d_Mo_behindSum_136 ?_
        obtain ⟨m_28, em_28, h⟩ := zbind h
        refine zo_putI 140 zkd_11 29 d_Mo_behindSum_137 em_28 rfl rfl rfl tw_1260 rfl ?_
        refine zi_aload_n 2 d_Mo_behindSum_140 rfl ?_
        refine zi_dup d_Mo_behindSum_141 rfl ?_
        obtain ⟨v_29, ev_29, h⟩ := zbind h
        refine zo_getI 145 zkd_11 30 d_Mo_behindSum_142 ev_29 rfl tw_1261 rfl ?_
        refine zi_iconst 1 d_Mo_behindSum_145 rfl ?_
        refine zi_isub d_Mo_behindSum_146 ?_
        obtain ⟨m_30, em_30, h⟩ := zbind h
        refine zo_putI 150 zkd_11 30 d_Mo_behindSum_147 em_30 rfl rfl rfl tw_1261 rfl ?_
        refine zi_iconst 3 d_Mo_behindSum_150 rfl ?_
        cases h
        exact zo_ret d_Mo_behindSum_151 (Nat.le_of_ble_eq_true rfl) (Nat.le_of_ble_eq_true rfl) rfl
  · rw [if_neg c_18] at h
    refine zi_aload_n 1 d_Mo_behindSum_77 rfl ?_
    refine zi_iload_n 0 d_Mo_behindSum_78 rfl ?_
    obtain ⟨q_33, eq_33, h⟩ := zbind h
    refine zo_stat (k' := 0) (n' := 0) 82 [.int s0] [.ref a0] [.int q_33.1, .ref a0] (C_Mo_binds n E S s0 M q_33.1 q_33.2 eq_33) d_Mo_behindSum_79 tw_1655 tw_1653 tw_1654 tw_13 dd_Mo_binds ⟨Nat.le_of_ble_eq_true rfl, Nat.le_of_ble_eq_true rfl, Nat.le_of_ble_eq_true rfl, Nat.le_of_ble_eq_true rfl⟩ (Nat.le_of_ble_eq_true rfl) rfl rfl rfl rfl ?_
    obtain ⟨u_34, eu_34, h⟩ := zbind h
    obtain ⟨q_35, eq_35, h⟩ := zbind h
    refine zo_virt (k' := 0) (n' := 0) 85 [.int q_33.1] [] [] zkd_11 (zck_s eu_34) (C_Mo_settle n E S a0 q_33.1 q_33.2 q_35 eq_35) d_Mo_behindSum_82 tw_1659 tw_1656 tw_1658 ts_72 tw_13 dd_Mo_settle ⟨Nat.le_of_ble_eq_true rfl, Nat.le_of_ble_eq_true rfl, Nat.le_of_ble_eq_true rfl, Nat.le_of_ble_eq_true rfl⟩ (Nat.le_of_ble_eq_true rfl) rfl rfl rfl rfl ?_
    refine zi_aload_n 1 d_Mo_behindSum_85 rfl ?_
    refine zi_iload_n 0 d_Mo_behindSum_86 rfl ?_
    refine zi_iconst 0 d_Mo_behindSum_87 rfl ?_
    obtain ⟨q_36, eq_36, h⟩ := zbind h
    refine zo_virt (k' := 0) (n' := 0) 91 [.int s0, .int 0] [] [] zkd_11 (zck_s eu_34) (C_Mo_push n E S a0 s0 0 q_35 q_36 eq_36) d_Mo_behindSum_88 tw_1614 tw_1611 tw_1613 ts_62 tw_13 dd_Mo_push ⟨Nat.le_of_ble_eq_true rfl, Nat.le_of_ble_eq_true rfl, Nat.le_of_ble_eq_true rfl, Nat.le_of_ble_eq_true rfl⟩ (Nat.le_of_ble_eq_true rfl) rfl rfl rfl rfl ?_
    refine zi_aload_n 1 d_Mo_behindSum_91 rfl ?_
    obtain ⟨q_37, eq_37, h⟩ := zbind h
    refine zo_virt (k' := 0) (n' := 0) 95 [] [] [] zkd_11 (zck_s eu_34) (C_Mo_next n E S a0 q_36 q_37 eq_37) d_Mo_behindSum_92 tw_1579 tw_1576 tw_1578 ts_56 tw_13 dd_Mo_next ⟨Nat.le_of_ble_eq_true rfl, Nat.le_of_ble_eq_true rfl, Nat.le_of_ble_eq_true rfl, Nat.le_of_ble_eq_true rfl⟩ (Nat.le_of_ble_eq_true rfl) rfl rfl rfl rfl ?_
    refine zi_iconst 1 d_Mo_behindSum_95 rfl ?_
    cases h
    exact zo_ret d_Mo_behindSum_96 (Nat.le_of_ble_eq_true rfl) (Nat.le_of_ble_eq_true rfl) rfl
theorem K_Mo_behindSum (n : Nat) (E : zE) (S : zS) (a0 : Nat) (x1 : Int32) (M : zH) (r : Int32) (M' : zH)  (h : F_Mo_behindSum n E S a0 x1 M = some (r, M')) : zG E Y_Mo_behindSum (some (.int r), S, M') 0 [(0, .ref a0), (1, .int x1)] [] S M 0 0 := by
  unfold F_Mo_behindSum at h
  refine zi_aload_n 0 d_Mo_behindSum_0 rfl ?_
  refine zi_bipush 43 d_Mo_behindSum_1 rfl ?_
  obtain ⟨u_38, eu_38, h⟩ := zbind h
  obtain ⟨q_39, eq_39, h⟩ := zbind h
  refine zo_virt (k' := 0) (n' := 0) 6 [.int 43] [] [.int (bI q_39.1)] zkd_11 (zck_s eu_38) (C_Mo_isSign n E S a0 43 M q_39.1 q_39.2 eq_39) d_Mo_behindSum_3 tw_1618 tw_1615 tw_1617 ts_63 tw_13 dd_Mo_isSign ⟨Nat.le_of_ble_eq_true rfl, Nat.le_of_ble_eq_true rfl, Nat.le_of_ble_eq_true rfl, Nat.le_of_ble_eq_true rfl⟩ (Nat.le_of_ble_eq_true rfl) rfl rfl rfl rfl ?_
  refine zo_ifeqB d_Mo_behindSum_6 rfl 9 rfl (fun c_40 => ?_) (fun c_40 => ?_)
  · rw [if_neg c_40] at h
    refine zi_aload_n 0 d_Mo_behindSum_14 rfl ?_
    refine zi_bipush 45 d_Mo_behindSum_15 rfl ?_
    obtain ⟨q_41, eq_41, h⟩ := zbind h
    refine zo_virt (k' := 0) (n' := 0) 20 [.int 45] [] [.int (bI q_41.1)] zkd_11 (zck_s eu_38) (C_Mo_isSign n E S a0 45 q_39.2 q_41.1 q_41.2 eq_41) d_Mo_behindSum_17 tw_1618 tw_1615 tw_1617 ts_63 tw_13 dd_Mo_isSign ⟨Nat.le_of_ble_eq_true rfl, Nat.le_of_ble_eq_true rfl, Nat.le_of_ble_eq_true rfl, Nat.le_of_ble_eq_true rfl⟩ (Nat.le_of_ble_eq_true rfl) rfl rfl rfl rfl ?_
    refine zo_ifeqB d_Mo_behindSum_20 rfl 23 rfl (fun c_42 => ?_) (fun c_42 => ?_)
    · rw [if_neg c_42] at h
      refine zi_aload_n 0 d_Mo_behindSum_28 rfl ?_
      refine zi_bipush 42 d_Mo_behindSum_29 rfl ?_
      obtain ⟨q_43, eq_43, h⟩ := zbind h
      refine zo_virt (k' := 0) (n' := 0) 34 [.int 42] [] [.int (bI q_43.1)] zkd_11 (zck_s eu_38) (C_Mo_isSign n E S a0 42 q_41.2 q_43.1 q_43.2 eq_43) d_Mo_behindSum_31 tw_1618 tw_1615 tw_1617 ts_63 tw_13 dd_Mo_isSign ⟨Nat.le_of_ble_eq_true rfl, Nat.le_of_ble_eq_true rfl, Nat.le_of_ble_eq_true rfl, Nat.le_of_ble_eq_true rfl⟩ (Nat.le_of_ble_eq_true rfl) rfl rfl rfl rfl ?_
      refine zo_ifeqB d_Mo_behindSum_34 rfl 37 rfl (fun c_44 => ?_) (fun c_44 => ?_)
      · rw [if_neg c_44] at h
        refine zi_aload_n 0 d_Mo_behindSum_42 rfl ?_
        refine zi_bipush 47 d_Mo_behindSum_43 rfl ?_
        obtain ⟨q_45, eq_45, h⟩ := zbind h
        refine zo_virt (k' := 0) (n' := 0) 48 [.int 47] [] [.int (bI q_45.1)] zkd_11 (zck_s eu_38) (C_Mo_isSign n E S a0 47 q_43.2 q_45.1 q_45.2 eq_45) d_Mo_behindSum_45 tw_1618 tw_1615 tw_1617 ts_63 tw_13 dd_Mo_isSign ⟨Nat.le_of_ble_eq_true rfl, Nat.le_of_ble_eq_true rfl, Nat.le_of_ble_eq_true rfl, Nat.le_of_ble_eq_true rfl⟩ (Nat.le_of_ble_eq_true rfl) rfl rfl rfl rfl ?_
        refine zo_ifeqB d_Mo_behindSum_48 rfl 51 rfl (fun c_46 => ?_) (fun c_46 => ?_)
        · rw [if_neg c_46] at h
          refine zi_aload_n 0 d_Mo_behindSum_56 rfl ?_
          refine zi_bipush 37 d_Mo_behindSum_57 rfl ?_
          obtain ⟨q_47, eq_47, h⟩ := zbind h
          refine zo_virt (k' := 0) (n' := 0) 62 [.int 37] [] [.int (bI q_47.1)] zkd_11 (zck_s eu_38) (C_Mo_isSign n E S a0 37 q_45.2 q_47.1 q_47.2 eq_47) d_Mo_behindSum_59 tw_1618 tw_1615 tw_1617 ts_63 tw_13 dd_Mo_isSign ⟨Nat.le_of_ble_eq_true rfl, Nat.le_of_ble_eq_true rfl, Nat.le_of_ble_eq_true rfl, Nat.le_of_ble_eq_true rfl⟩ (Nat.le_of_ble_eq_true rfl) rfl rfl rfl rfl ?_
          refine zo_ifeqB d_Mo_behindSum_62 rfl 65 rfl (fun c_48 => ?_) (fun c_48 => ?_)
          · rw [if_neg c_48] at h
            refine zi_iconst (-1) d_Mo_behindSum_70 rfl ?_
            refine zi_lo [(0, .ref a0), (1, .int x1)] [0, 1] rfl ?_
            exact K_Mo_behindSum_b71 n E S a0 x1 (-1) q_47.2 r M'  h
          · rw [if_pos c_48] at h
            refine zi_bipush 24 d_Mo_behindSum_65 rfl ?_
            refine zi_goto (tgt := 71) d_Mo_behindSum_67 rfl ?_
            refine zi_lo [(0, .ref a0), (1, .int x1)] [0, 1] rfl ?_
            exact K_Mo_behindSum_b71 n E S a0 x1 24 q_47.2 r M'  h
        · rw [if_pos c_46] at h
          refine zi_bipush 23 d_Mo_behindSum_51 rfl ?_
          refine zi_goto (tgt := 71) d_Mo_behindSum_53 rfl ?_
          refine zi_lo [(0, .ref a0), (1, .int x1)] [0, 1] rfl ?_
          exact K_Mo_behindSum_b71 n E S a0 x1 23 q_45.2 r M'  h
      · rw [if_pos c_44] at h
        refine zi_bipush 22 d_Mo_behindSum_37 rfl ?_
        refine zi_goto (tgt := 71) d_Mo_behindSum_39 rfl ?_
        refine zi_lo [(0, .ref a0), (1, .int x1)] [0, 1] rfl ?_
        exact K_Mo_behindSum_b71 n E S a0 x1 22 q_43.2 r M'  h
    · rw [if_pos c_42] at h
      refine zi_bipush 21 d_Mo_behindSum_23 rfl ?_
      refine zi_goto (tgt := 71) d_Mo_behindSum_25 rfl ?_
      refine zi_lo [(0, .ref a0), (1, .int x1)] [0, 1] rfl ?_
      exact K_Mo_behindSum_b71 n E S a0 x1 21 q_41.2 r M'  h
  · rw [if_pos c_40] at h
    refine zi_bipush 20 d_Mo_behindSum_9 rfl ?_
    refine zi_goto (tgt := 71) d_Mo_behindSum_11 rfl ?_
    refine zi_lo [(0, .ref a0), (1, .int x1)] [0, 1] rfl ?_
    exact K_Mo_behindSum_b71 n E S a0 x1 20 q_39.2 r M'  h
theorem C_Mo_behindSum (n : Nat) (E : zE) (S : zS) (a0 : Nat) (x1 : Int32) (M : zH) (r : Int32) (M' : zH) (h : F_Mo_behindSum n E S a0 x1 M = some (r, M')) : zC E Y_Mo_behindSum [.ref a0, .int x1] S M (some (.int r), S, M') :=
  zC.of (Or.inl (show plainName "NightColanderModel" = true by decide)) (Nat.le_of_ble_eq_true rfl) (trivial) (K_Mo_behindSum n E S a0 x1 M r M' h)
theorem d_Mo_behindTest_0 : decode (yB Y_Mo_behindTest) 0 = .ok (.aload_n 0, 1) := by decide +kernel
theorem d_Mo_behindTest_1 : decode (yB Y_Mo_behindTest) 1 = .ok (.ldc2_w 368, 3) := by decide +kernel
theorem d_Mo_behindTest_4 : decode (yB Y_Mo_behindTest) 4 = .ok (.invokevirtual 312, 3) := by decide +kernel
theorem d_Mo_behindTest_7 : decode (yB Y_Mo_behindTest) 7 = .ok (.istore_n 1, 1) := by decide +kernel
theorem d_Mo_behindTest_8 : decode (yB Y_Mo_behindTest) 8 = .ok (.iload_n 1, 1) := by decide +kernel
theorem d_Mo_behindTest_9 : decode (yB Y_Mo_behindTest) 9 = .ok (.ifCond .ne 13, 3) := by decide +kernel
theorem d_Mo_behindTest_12 : decode (yB Y_Mo_behindTest) 12 = .ok (.aload_n 0, 1) := by decide +kernel
theorem d_Mo_behindTest_13 : decode (yB Y_Mo_behindTest) 13 = .ok (.ldc2_w 370, 3) := by decide +kernel
theorem d_Mo_behindTest_16 : decode (yB Y_Mo_behindTest) 16 = .ok (.invokevirtual 312, 3) := by decide +kernel
theorem d_Mo_behindTest_19 : decode (yB Y_Mo_behindTest) 19 = .ok (.ifCond .eq 57, 3) := by decide +kernel
theorem d_Mo_behindTest_22 : decode (yB Y_Mo_behindTest) 22 = .ok (.aload_n 0, 1) := by decide +kernel
theorem d_Mo_behindTest_23 : decode (yB Y_Mo_behindTest) 23 = .ok (.iload_n 1, 1) := by decide +kernel
theorem d_Mo_behindTest_24 : decode (yB Y_Mo_behindTest) 24 = .ok (.ifCond .eq 7, 3) := by decide +kernel
theorem d_Mo_behindTest_27 : decode (yB Y_Mo_behindTest) 27 = .ok (.iconst 2, 1) := by decide +kernel
theorem d_Mo_behindTest_28 : decode (yB Y_Mo_behindTest) 28 = .ok (.goto 4, 3) := by decide +kernel
theorem d_Mo_behindTest_31 : decode (yB Y_Mo_behindTest) 31 = .ok (.iconst 1, 1) := by decide +kernel
theorem d_Mo_behindTest_32 : decode (yB Y_Mo_behindTest) 32 = .ok (.invokevirtual 358, 3) := by decide +kernel
theorem d_Mo_behindTest_35 : decode (yB Y_Mo_behindTest) 35 = .ok (.aload_n 0, 1) := by decide +kernel
theorem d_Mo_behindTest_36 : decode (yB Y_Mo_behindTest) 36 = .ok (.iload_n 1, 1) := by decide +kernel
theorem d_Mo_behindTest_37 : decode (yB Y_Mo_behindTest) 37 = .ok (.ifCond .eq 8, 3) := by decide +kernel
theorem d_Mo_behindTest_40 : decode (yB Y_Mo_behindTest) 40 = .ok (.bipush 29, 2) := by decide +kernel
theorem d_Mo_behindTest_42 : decode (yB Y_Mo_behindTest) 42 = .ok (.goto 5, 3) := by decide +kernel
theorem d_Mo_behindTest_45 : decode (yB Y_Mo_behindTest) 45 = .ok (.bipush 30, 2) := by decide +kernel
theorem d_Mo_behindTest_47 : decode (yB Y_Mo_behindTest) 47 = .ok (.aload_n 0, 1) := by decide +kernel
theorem d_Mo_behindTest_48 : decode (yB Y_Mo_behindTest) 48 = .ok (.getfield 291, 3) := by decide +kernel
theorem d_Mo_behindTest_51 : decode (yB Y_Mo_behindTest) 51 = .ok (.invokevirtual 319, 3) := by decide +kernel
theorem d_Mo_behindTest_54 : decode (yB Y_Mo_behindTest) 54 = .ok (.aload_n 0, 1) := by decide +kernel
theorem d_Mo_behindTest_55 : decode (yB Y_Mo_behindTest) 55 = .ok (.iload_n 1, 1) := by decide +kernel
theorem d_Mo_behindTest_56 : decode (yB Y_Mo_behindTest) 56 = .ok (.ifCond .eq 8, 3) := by decide +kernel
theorem d_Mo_behindTest_59 : decode (yB Y_Mo_behindTest) 59 = .ok (.bipush 29, 2) := by decide +kernel
theorem d_Mo_behindTest_61 : decode (yB Y_Mo_behindTest) 61 = .ok (.goto 5, 3) := by decide +kernel
theorem d_Mo_behindTest_64 : decode (yB Y_Mo_behindTest) 64 = .ok (.bipush 30, 2) := by decide +kernel
theorem d_Mo_behindTest_66 : decode (yB Y_Mo_behindTest) 66 = .ok (.iconst 0, 1) := by decide +kernel
theorem d_Mo_behindTest_67 : decode (yB Y_Mo_behindTest) 67 = .ok (.invokevirtual 300, 3) := by decide +kernel
theorem d_Mo_behindTest_70 : decode (yB Y_Mo_behindTest) 70 = .ok (.aload_n 0, 1) := by decide +kernel
theorem d_Mo_behindTest_71 : decode (yB Y_Mo_behindTest) 71 = .ok (.invokevirtual 260, 3) := by decide +kernel
theorem d_Mo_behindTest_74 : decode (yB Y_Mo_behindTest) 74 = .ok (.iconst 0, 1) := by decide +kernel
theorem d_Mo_behindTest_75 : decode (yB Y_Mo_behindTest) 75 = .ok (.ireturn, 1) := by decide +kernel
theorem d_Mo_behindTest_76 : decode (yB Y_Mo_behindTest) 76 = .ok (.aload_n 0, 1) := by decide +kernel
theorem d_Mo_behindTest_77 : decode (yB Y_Mo_behindTest) 77 = .ok (.invokevirtual 361, 3) := by decide +kernel
theorem d_Mo_behindTest_80 : decode (yB Y_Mo_behindTest) 80 = .ok (.iconst (-1), 1) := by decide +kernel
theorem d_Mo_behindTest_81 : decode (yB Y_Mo_behindTest) 81 = .ok (.if_icmp .ne 5, 3) := by decide +kernel
theorem d_Mo_behindTest_84 : decode (yB Y_Mo_behindTest) 84 = .ok (.iconst 4, 1) := by decide +kernel
theorem d_Mo_behindTest_85 : decode (yB Y_Mo_behindTest) 85 = .ok (.ireturn, 1) := by decide +kernel
theorem d_Mo_behindTest_86 : decode (yB Y_Mo_behindTest) 86 = .ok (.aload_n 0, 1) := by decide +kernel
theorem d_Mo_behindTest_87 : decode (yB Y_Mo_behindTest) 87 = .ok (.aload_n 0, 1) := by decide +kernel
theorem d_Mo_behindTest_88 : decode (yB Y_Mo_behindTest) 88 = .ok (.bipush 41, 2) := by decide +kernel
theorem d_Mo_behindTest_90 : decode (yB Y_Mo_behindTest) 90 = .ok (.invokevirtual 325, 3) := by decide +kernel
theorem d_Mo_behindTest_93 : decode (yB Y_Mo_behindTest) 93 = .ok (.invokevirtual 287, 3) := by decide +kernel
theorem d_Mo_behindTest_96 : decode (yB Y_Mo_behindTest) 96 = .ok (.aload_n 0, 1) := by decide +kernel
theorem d_Mo_behindTest_97 : decode (yB Y_Mo_behindTest) 97 = .ok (.getfield 256, 3) := by decide +kernel
theorem d_Mo_behindTest_100 : decode (yB Y_Mo_behindTest) 100 = .ok (.ifCond .ne 28, 3) := by decide +kernel
theorem d_Mo_behindTest_103 : decode (yB Y_Mo_behindTest) 103 = .ok (.aload_n 0, 1) := by decide +kernel
theorem d_Mo_behindTest_104 : decode (yB Y_Mo_behindTest) 104 = .ok (.iconst 1, 1) := by decide +kernel
theorem d_Mo_behindTest_105 : decode (yB Y_Mo_behindTest) 105 = .ok (.invokevirtual 358, 3) := by decide +kernel
theorem d_Mo_behindTest_108 : decode (yB Y_Mo_behindTest) 108 = .ok (.aload_n 0, 1) := by decide +kernel
theorem d_Mo_behindTest_109 : decode (yB Y_Mo_behindTest) 109 = .ok (.dup, 1) := by decide +kernel
theorem d_Mo_behindTest_110 : decode (yB Y_Mo_behindTest) 110 = .ok (.getfield 294, 3) := by decide +kernel
theorem d_Mo_behindTest_113 : decode (yB Y_Mo_behindTest) 113 = .ok (.iconst 1, 1) := by decide +kernel
theorem d_Mo_behindTest_114 : decode (yB Y_Mo_behindTest) 114 = .ok (.isub, 1) := by decide +kernel
theorem d_Mo_behindTest_115 : decode (yB Y_Mo_behindTest) 115 = .ok (.putfield 294, 3) := by decide +kernel
theorem d_Mo_behindTest_118 : decode (yB Y_Mo_behindTest) 118 = .ok (.aload_n 0, 1) := by decide +kernel
theorem d_Mo_behindTest_119 : decode (yB Y_Mo_behindTest) 119 = .ok (.dup, 1) := by decide +kernel
theorem d_Mo_behindTest_120 : decode (yB Y_Mo_behindTest) 120 = .ok (.getfield 316, 3) := by decide +kernel
theorem d_Mo_behindTest_123 : decode (yB Y_Mo_behindTest) 123 = .ok (.iconst 1, 1) := by decide +kernel
theorem d_Mo_behindTest_124 : decode (yB Y_Mo_behindTest) 124 = .ok (.isub, 1) := by decide +kernel
theorem d_Mo_behindTest_125 : decode (yB Y_Mo_behindTest) 125 = .ok (.putfield 316, 3) := by decide +kernel
theorem d_Mo_behindTest_128 : decode (yB Y_Mo_behindTest) 128 = .ok (.iconst 2, 1) := by decide +kernel
theorem d_Mo_behindTest_129 : decode (yB Y_Mo_behindTest) 129 = .ok (.ireturn, 1) := by decide +kernel
def F_Mo_behindTest_b66 (n : Nat) (E : zE) (S : zS) (a0 : Nat) (s0 : Int32) (u1 : Nat) (M : zH) : Option (Int32 × zH) :=
  (zck S u1 11).bind fun u_1 =>
  (F_Mo_emit n E S u1 s0 0 M).bind fun q_2 =>
  (zck S a0 11).bind fun u_3 =>
  (F_Mo_next n E S a0 q_2).bind fun q_4 =>
  some (0, q_4)
def F_Mo_behindTest_b47 (n : Nat) (E : zE) (S : zS) (a0 : Nat) (x1 : Int32) (s0 : Int32) (u1 : Nat) (M : zH) : Option (Int32 × zH) :=
  (zgI S M a0 11 23).bind fun v_5 =>
  (zck S u1 11).bind fun u_6 =>
  (F_Mo_push n E S u1 s0 v_5 M).bind fun q_7 =>
  if x1 = 0 then
    F_Mo_behindTest_b66 n E S a0 30 a0 q_7
  else
    F_Mo_behindTest_b66 n E S a0 29 a0 q_7
def F_Mo_behindTest_b32 (n : Nat) (E : zE) (S : zS) (a0 : Nat) (x1 : Int32) (s0 : Int32) (u1 : Nat) (M : zH) : Option (Int32 × zH) :=
  (zck S u1 11).bind fun u_9 =>
  (F_Mo_settle n E S u1 s0 M).bind fun q_10 =>
  if x1 = 0 then
    F_Mo_behindTest_b47 n E S a0 x1 30 a0 q_10
  else
    F_Mo_behindTest_b47 n E S a0 x1 29 a0 q_10
def F_Mo_behindTest_b22 (n : Nat) (E : zE) (S : zS) (a0 : Nat) (x1 : Int32) (M : zH) : Option (Int32 × zH) :=
  if x1 = 0 then
    F_Mo_behindTest_b32 n E S a0 x1 1 a0 M
  else
    F_Mo_behindTest_b32 n E S a0 x1 2 a0 M
def F_Mo_behindTest (n : Nat) (E : zE) (S : zS) (a0 : Nat) (M : zH) : Option (Int32 × zH) :=
  (zck S a0 11).bind fun u_13 =>
  (F_Mo_isWord n E S a0 1476 M).bind fun q_14 =>
  if (bI q_14.1) = 0 then
    (F_Mo_isWord n E S a0 498 q_14.2).bind fun q_16 =>
    if q_16.1 = true then
      F_Mo_behindTest_b22 n E S a0 (bI q_14.1) q_16.2
    else
      (F_Mo_inner n E S a0 q_16.2).bind fun q_18 =>
      if q_18.1 = (-1) then
        some (4, q_18.2)
      else
        (F_Mo_isSign n E S a0 41 q_18.2).bind fun q_20 =>
        (F_Mo_must n E S a0 (bI q_20.1) q_20.2).bind fun q_21 =>
        (zgI S q_21 a0 11 19).bind fun v_22 =>
        if v_22 = 0 then
          (F_Mo_settle n E S a0 1 q_21).bind fun q_24 =>
          (zgI S q_24 a0 11 29).bind fun v_25 =>
          (zpI S q_24 a0 11 29 (v_25 - 1)).bind fun m_26 =>
          (zgI S m_26 a0 11 30).bind fun v_27 =>
          (zpI S m_26 a0 11 30 (v_27 - 1)).bind fun m_28 =>
          some (2, m_28)
        else
          some (2, q_21)
  else
    F_Mo_behindTest_b22 n E S a0 (bI q_14.1) q_14.2
theorem K_Mo_behindTest_b66 (n : Nat) (E : zE) (S : zS) (a0 : Nat) (s0 : Int32) (u1 : Nat) (M : zH) (r : Int32) (M' : zH)  (h : F_Mo_behindTest_b66 n E S a0 s0 u1 M = some (r, M')) : zG E Y_Mo_behindTest (some (.int r), S, M') 66 [(0, .ref a0)] [.int s0, .ref u1] S M 0 0 := by
  unfold F_Mo_behindTest_b66 at h
  refine zi_iconst 0 d_Mo_behindTest_66 rfl ?_
  obtain ⟨u_1, eu_1, h⟩ := zbind h
  obtain ⟨q_2, eq_2, h⟩ := zbind h
  refine zo_virt (k' := 0) (n' := 0) 70 [.int s0, .int 0] [] [] zkd_11 (zck_s eu_1) (C_Mo_emit n E S u1 s0 0 M q_2 eq_2) d_Mo_behindTest_67 tw_1643 tw_1640 tw_1642 ts_69 tw_13 dd_Mo_emit ⟨Nat.le_of_ble_eq_true rfl, Nat.le_of_ble_eq_true rfl, Nat.le_of_ble_eq_true rfl, Nat.le_of_ble_eq_true rfl⟩ (Nat.le_of_ble_eq_true rfl) rfl rfl rfl rfl ?_
  refine zi_aload_n 0 d_Mo_behindTest_70 rfl ?_
  obtain ⟨u_3, eu_3, h⟩ := zbind h
  obtain ⟨q_4, eq_4, h⟩ := zbind h
  refine zo_virt (k' := 0) (n' := 0) 74 [] [] [] zkd_11 (zck_s eu_3) (C_Mo_next n E S a0 q_2 q_4 eq_4) d_Mo_behindTest_71 tw_1579 tw_1576 tw_1578 ts_56 tw_13 dd_Mo_next ⟨Nat.le_of_ble_eq_true rfl, Nat.le_of_ble_eq_true rfl, Nat.le_of_ble_eq_true rfl, Nat.le_of_ble_eq_true rfl⟩ (Nat.le_of_ble_eq_true rfl) rfl rfl rfl rfl ?_
  refine zi_iconst 0 d_Mo_behindTest_74 rfl ?_
  cases h
  exact zo_ret d_Mo_behindTest_75 (Nat.le_of_ble_eq_true rfl) (Nat.le_of_ble_eq_true rfl) rfl
theorem K_Mo_behindTest_b47 (n : Nat) (E : zE) (S : zS) (a0 : Nat) (x1 : Int32) (s0 : Int32) (u1 : Nat) (M : zH) (r : Int32) (M' : zH)  (h : F_Mo_behindTest_b47 n E S a0 x1 s0 u1 M = some (r, M')) : zG E Y_Mo_behindTest (some (.int r), S, M') 47 [(0, .ref a0), (1, .int x1)] [.int s0, .ref u1] S M 0 0 := by
  unfold F_Mo_behindTest_b47 at h
  refine zi_aload_n 0 d_Mo_behindTest_47 rfl ?_
  obtain ⟨v_5, ev_5, h⟩ := zbind h
  refine zo_getI 51 zkd_11 23 d_Mo_behindTest_48 ev_5 rfl tw_1254 rfl ?_
  obtain ⟨u_6, eu_6, h⟩ := zbind h
  obtain ⟨q_7, eq_7, h⟩ := zbind h
  refine zo_virt (k' := 0) (n' := 0) 54 [.int s0, .int v_5] [] [] zkd_11 (zck_s eu_6) (C_Mo_push n E S u1 s0 v_5 M q_7 eq_7) d_Mo_behindTest_51 tw_1614 tw_1611 tw_1613 ts_62 tw_13 dd_Mo_push ⟨Nat.le_of_ble_eq_true rfl, Nat.le_of_ble_eq_true rfl, Nat.le_of_ble_eq_true rfl, Nat.le_of_ble_eq_true rfl⟩ (Nat.le_of_ble_eq_true rfl) rfl rfl rfl rfl ?_
  refine zi_aload_n 0 d_Mo_behindTest_54 rfl ?_
  refine zi_iload_n 1 d_Mo_behindTest_55 rfl ?_
  refine zi_if_eq (tgt := 64) d_Mo_behindTest_56 rfl (fun c_8 => ?_) (fun c_8 => ?_)
  · rw [if_pos c_8] at h
    refine zi_bipush 30 d_Mo_behindTest_64 rfl ?_
    refine zi_lo [(0, .ref a0)] [0] rfl ?_
    exact K_Mo_behindTest_b66 n E S a0 30 a0 q_7 r M'  h
  · rw [if_neg c_8] at h
    refine zi_bipush 29 d_Mo_behindTest_59 rfl ?_
    refine zi_goto (tgt := 66) d_Mo_behindTest_61 rfl ?_
    refine zi_lo [(0, .ref a0)] [0] rfl ?_
    exact K_Mo_behindTest_b66 n E S a0 29 a0 q_7 r M'  h
theorem K_Mo_behindTest_b32 (n : Nat) (E : zE) (S : zS) (a0 : Nat) (x1 : Int32) (s0 : Int32) (u1 : Nat) (M : zH) (r : Int32) (M' : zH)  (h : F_Mo_behindTest_b32 n E S a0 x1 s0 u1 M = some (r, M')) : zG E Y_Mo_behindTest (some (.int r), S, M') 32 [(0, .ref a0), (1, .int x1)] [.int s0, .ref u1] S M 0 0 := by
  unfold F_Mo_behindTest_b32 at h
  obtain ⟨u_9, eu_9, h⟩ := zbind h
  obtain ⟨q_10, eq_10, h⟩ := zbind h
  refine zo_virt (k' := 0) (n' := 0) 35 [.int s0] [] [] zkd_11 (zck_s eu_9) (C_Mo_settle n E S u1 s0 M q_10 eq_10) d_Mo_behindTest_32 tw_1659 tw_1656 tw_1658 ts_72 tw_13 dd_Mo_settle ⟨Nat.le_of_ble_eq_true rfl, Nat.le_of_ble_eq_true rfl, Nat.le_of_ble_eq_true rfl, Nat.le_of_ble_eq_true rfl⟩ (Nat.le_of_ble_eq_true rfl) rfl rfl rfl rfl ?_
  refine zi_aload_n 0 d_Mo_behindTest_35 rfl ?_
  refine zi_iload_n 1 d_Mo_behindTest_36 rfl ?_
  refine zi_if_eq (tgt := 45) d_Mo_behindTest_37 rfl (fun c_11 => ?_) (fun c_11 => ?_)
  · rw [if_pos c_11] at h
    refine zi_bipush 30 d_Mo_behindTest_45 rfl ?_
    refine zi_lo [(0, .ref a0), (1, .int x1)] [0, 1] rfl ?_
    exact K_Mo_behindTest_b47 n E S a0 x1 30 a0 q_10 r M'  h
  · rw [if_neg c_11] at h
    refine zi_bipush 29 d_Mo_behindTest_40 rfl ?_
    refine zi_goto (tgt := 47) d_Mo_behindTest_42 rfl ?_
    refine zi_lo [(0, .ref a0), (1, .int x1)] [0, 1] rfl ?_
    exact K_Mo_behindTest_b47 n E S a0 x1 29 a0 q_10 r M'  h
theorem K_Mo_behindTest_b22 (n : Nat) (E : zE) (S : zS) (a0 : Nat) (x1 : Int32) (M : zH) (r : Int32) (M' : zH)  (h : F_Mo_behindTest_b22 n E S a0 x1 M = some (r, M')) : zG E Y_Mo_behindTest (some (.int r), S, M') 22 [(0, .ref a0), (1, .int x1)] [] S M 0 0 := by
  unfold F_Mo_behindTest_b22 at h
  refine zi_aload_n 0 d_Mo_behindTest_22 rfl ?_
  refine zi_iload_n 1 d_Mo_behindTest_23 rfl ?_
  refine zi_if_eq (tgt := 31) d_Mo_behindTest_24 rfl (fun c_12 => ?_) (fun c_12 => ?_)
  · rw [if_pos c_12] at h
    refine zi_iconst 1 d_Mo_behindTest_31 rfl ?_
    refine zi_lo [(0, .ref a0), (1, .int x1)] [0, 1] rfl ?_
    exact K_Mo_behindTest_b32 n E S a0 x1 1 a0 M r M'  h
  · rw [if_neg c_12] at h
    refine zi_iconst 2 d_Mo_behindTest_27 rfl ?_
    refine zi_goto (tgt := 32) d_Mo_behindTest_28 rfl ?_
    refine zi_lo [(0, .ref a0), (1, .int x1)] [0, 1] rfl ?_
    exact K_Mo_behindTest_b32 n E S a0 x1 2 a0 M r M'  h
theorem K_Mo_behindTest (n : Nat) (E : zE) (S : zS) (a0 : Nat) (M : zH) (r : Int32) (M' : zH)  (h : F_Mo_behindTest n E S a0 M = some (r, M')) : zG E Y_Mo_behindTest (some (.int r), S, M') 0 [(0, .ref a0)] [] S M 0 0 := by
  unfold F_Mo_behindTest at h
  refine zi_aload_n 0 d_Mo_behindTest_0 rfl ?_
  refine zi_ldc2 d_Mo_behindTest_1 tw_1676 ?_
  obtain ⟨u_13, eu_13, h⟩ := zbind h
  obtain ⟨q_14, eq_14, h⟩ := zbind h
  refine zo_virt (k' := 0) (n' := 0) 7 [.long 1476] [] [.int (bI q_14.1)] zkd_11 (zck_s eu_13) (C_Mo_isWord n E S a0 1476 M q_14.1 q_14.2 eq_14) d_Mo_behindTest_4 tw_1597 tw_1594 tw_1596 ts_58 tw_13 dd_Mo_isWord ⟨Nat.le_of_ble_eq_true rfl, Nat.le_of_ble_eq_true rfl, Nat.le_of_ble_eq_true rfl, Nat.le_of_ble_eq_true rfl⟩ (Nat.le_of_ble_eq_true rfl) rfl rfl rfl rfl ?_
  refine zi_istore_n [(1, .int (bI q_14.1)), (0, .ref a0)] d_Mo_behindTest_7 (by decide) rfl ?_
  refine zi_iload_n 0 d_Mo_behindTest_8 rfl ?_
  refine zi_if_ne (tgt := 22) d_Mo_behindTest_9 rfl (fun c_15 => ?_) (fun c_15 => ?_)
  · rw [if_neg c_15] at h
    refine zi_lo [(0, .ref a0), (1, .int (bI q_14.1))] [1, 0] rfl ?_
    exact K_Mo_behindTest_b22 n E S a0 (bI q_14.1) q_14.2 r M'  h
  · rw [if_pos c_15] at h
    refine zi_aload_n 1 d_Mo_behindTest_12 rfl ?_
    refine zi_ldc2 d_Mo_behindTest_13 tw_1677 ?_
    obtain ⟨q_16, eq_16, h⟩ := zbind h
    refine zo_virt (k' := 0) (n' := 0) 19 [.long 498] [] [.int (bI q_16.1)] zkd_11 (zck_s eu_13) (C_Mo_isWord n E S a0 498 q_14.2 q_16.1 q_16.2 eq_16) d_Mo_behindTest_16 tw_1597 tw_1594 tw_1596 ts_58 tw_13 dd_Mo_isWord ⟨Nat.le_of_ble_eq_true rfl, Nat.le_of_ble_eq_true rfl, Nat.le_of_ble_eq_true rfl, Nat.le_of_ble_eq_true rfl⟩ (Nat.le_of_ble_eq_true rfl) rfl rfl rfl rfl ?_
    refine zo_ifeqB d_Mo_behindTest_19 rfl 22 rfl (fun c_17 => ?_) (fun c_17 => ?_)
    · rw [if_neg c_17] at h
      refine zi_aload_n 1 d_Mo_behindTest_76 rfl ?_
      obtain ⟨q_18, eq_18, h⟩ := zbind h
      refine zo_virt (k' := 0) (n' := 0) 80 [] [] [.int q_18.1] zkd_11 (zck_s eu_13) (C_Mo_inner n E S a0 q_16.2 q_18.1 q_18.2 eq_18) d_Mo_behindTest_77 tw_1663 tw_1660 tw_1662 ts_73 tw_13 dd_Mo_inner ⟨Nat.le_of_ble_eq_true rfl, Nat.le_of_ble_eq_true rfl, Nat.le_of_ble_eq_true rfl, Nat.le_of_ble_eq_true rfl⟩ (Nat.le_of_ble_eq_true rfl) rfl rfl rfl rfl ?_
      refine zi_iconst (-1) d_Mo_behindTest_80 rfl ?_
      refine zi_icmp_ne (tgt := 86) d_Mo_behindTest_81 rfl (fun c_19 => ?_) (fun c_19 => ?_)
      · rw [if_neg c_19] at h
        refine zi_aload_n 1 d_Mo_behindTest_86 rfl ?_
        refine zi_aload_n 1 d_Mo_behindTest_87 rfl ?_
        refine zi_bipush 41 d_Mo_behindTest_88 rfl ?_
        obtain ⟨q_20, eq_20, h⟩ := zbind h
        refine zo_virt (k' := 0) (n' := 0) 93 [.int 41] [.ref a0] [.int (bI q_20.1), .ref a0] zkd_11 (zck_s eu_13) (C_Mo_isSign n E S a0 41 q_18.2 q_20.1 q_20.2 eq_20) d_Mo_behindTest_90 tw_1618 tw_1615 tw_1617 ts_63 tw_13 dd_Mo_isSign ⟨Nat.le_of_ble_eq_true rfl, Nat.le_of_ble_eq_true rfl, Nat.le_of_ble_eq_true rfl, Nat.le_of_ble_eq_true rfl⟩ (Nat.le_of_ble_eq_true rfl) rfl rfl rfl rfl ?_
        obtain ⟨q_21, eq_21, h⟩ := zbind h
        refine zo_virt (k' := 0) (n' := 0) 96 [.int (bI q_20.1)] [] [] zkd_11 (zck_s eu_13) (C_Mo_must n E S a0 (bI q_20.1) q_20.2 q_21 eq_21) d_Mo_behindTest_93 tw_1601 tw_1598 tw_1600 ts_59 tw_13 dd_Mo_must ⟨Nat.le_of_ble_eq_true rfl, Nat.le_of_ble_eq_true rfl, Nat.le_of_ble_eq_true rfl, Nat.le_of_ble_eq_true rfl⟩ (Nat.le_of_ble_eq_true rfl) rfl rfl rfl rfl ?_
        refine zi_aload_n 1 d_Mo_behindTest_96 rfl ?_
        obtain ⟨v_22, ev_22, h⟩ := zbind h
        refine zo_getI 100 zkd_11 19 d_Mo_behindTest_97 ev_22 rfl tw_1250 rfl ?_
        refine zi_if_ne (tgt := 128) d_Mo_behindTest_100 rfl (fun c_23 => ?_) (fun c_23 => ?_)
        · rw [if_neg c_23] at h
          refine zi_iconst 2 d_Mo_behindTest_128 rfl ?_
          cases h
          exact zo_ret d_Mo_behindTest_129 (Nat.le_of_ble_eq_true rfl) (Nat.le_of_ble_eq_true rfl) rfl
        · rw [if_pos c_23] at h
          refine zi_aload_n 1 d_Mo_behindTest_103 rfl ?_
          refine zi_iconst 1 d_Mo_behindTest_104 rfl ?_
          obtain ⟨q_24, eq_24, h⟩ := zbind h
          refine zo_virt (k' := 0) (n' := 0) 108 [.int 1] [] [] zkd_11 (zck_s eu_13) (C_Mo_settle n E S a0 1 q_21 q_24 eq_24) d_Mo_behindTest_105 tw_1659 tw_1656 tw_1658 ts_72 tw_13 dd_Mo_settle ⟨Nat.le_of_ble_eq_true rfl, Nat.le_of_ble_eq_true rfl, Nat.le_of_ble_eq_true rfl, Nat.le_of_ble_eq_true rfl⟩ (Nat.le_of_ble_eq_true rfl) rfl rfl rfl rfl ?_
          refine zi_aload_n 1 d_Mo_behindTest_108 rfl ?_
          refine zi_dup d_Mo_behindTest_109 rfl ?_
          obtain ⟨v_25, ev_25, h⟩ := zbind h
          refine zo_getI 113 zkd_11 29 d_Mo_behindTest_110 ev_25 rfl tw_1260 rfl ?_
          refine zi_iconst 1 d_Mo_behindTest_113 rfl ?_
          refine zi_isub d_Mo_behindTest_114 ?_
          obtain ⟨m_26, em_26, h⟩ := zbind h
          refine zo_putI 118 zkd_11 29 d_Mo_behindTest_115 em_26 rfl rfl rfl tw_1260 rfl ?_
          refine zi_aload_n 1 d_Mo_behindTest_118 rfl ?_
          refine zi_dup d_Mo_behindTest_119 rfl ?_
          obtain ⟨v_27, ev_27, h⟩ := zbind h
          refine zo_getI 123 zkd_11 30 d_Mo_behindTest_120 ev_27 rfl tw_1261 rfl ?_
          refine zi_iconst 1 d_Mo_behindTest_123 rfl ?_
          refine zi_isub d_Mo_behindTest_124 ?_
          obtain ⟨m_28, em_28, h⟩ := zbind h
          refine zo_putI 128 zkd_11 30 d_Mo_behindTest_125 em_28 rfl rfl rfl tw_1261 rfl ?_
          refine zi_iconst 2 d_Mo_behindTest_128 rfl ?_
          cases h
          exact zo_ret d_Mo_behindTest_129 (Nat.le_of_ble_eq_true rfl) (Nat.le_of_ble_eq_true rfl) rfl
      · rw [if_pos c_19] at h
        refine zi_iconst 4 d_Mo_behindTest_84 rfl ?_
        cases h
        exact zo_ret d_Mo_behindTest_85 (Nat.le_of_ble_eq_true rfl) (Nat.le_of_ble_eq_true rfl) rfl
    · rw [if_pos c_17] at h
      refine zi_lo [(0, .ref a0), (1, .int (bI q_14.1))] [1, 0] rfl ?_
      exact K_Mo_behindTest_b22 n E S a0 (bI q_14.1) q_16.2 r M'  h
theorem C_Mo_behindTest (n : Nat) (E : zE) (S : zS) (a0 : Nat) (M : zH) (r : Int32) (M' : zH) (h : F_Mo_behindTest n E S a0 M = some (r, M')) : zC E Y_Mo_behindTest [.ref a0] S M (some (.int r), S, M') :=
  zC.of (Or.inl (show plainName "NightColanderModel" = true by decide)) (Nat.le_of_ble_eq_true rfl) (trivial) (K_Mo_behindTest n E S a0 M r M' h)
