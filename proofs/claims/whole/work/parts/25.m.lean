/-! METHODS (printed by gen/build.py): Te_leapHere Ps_readBoth Ps_readTest Te_closeClause Te_openClause Ps_readClause Ta_atEnd Ta_place Ta_rewind Te_clear Ps_parse Ja_copyOf Te_init1 Te_copy NC_law Ni_copyFrom -/
theorem d_Te_leapHere_0 : decode (yB Y_Te_leapHere) 0 = .ok (.iload_n 1, 1) := by decide +kernel
theorem d_Te_leapHere_1 : decode (yB Y_Te_leapHere) 1 = .ok (.iconst 0, 1) := by decide +kernel
theorem d_Te_leapHere_2 : decode (yB Y_Te_leapHere) 2 = .ok (.aload_n 0, 1) := by decide +kernel
theorem d_Te_leapHere_3 : decode (yB Y_Te_leapHere) 3 = .ok (.getfield 7, 3) := by decide +kernel
theorem d_Te_leapHere_6 : decode (yB Y_Te_leapHere) 6 = .ok (.iconst 1, 1) := by decide +kernel
theorem d_Te_leapHere_7 : decode (yB Y_Te_leapHere) 7 = .ok (.isub, 1) := by decide +kernel
theorem d_Te_leapHere_8 : decode (yB Y_Te_leapHere) 8 = .ok (.invokestatic 54, 3) := by decide +kernel
theorem d_Te_leapHere_11 : decode (yB Y_Te_leapHere) 11 = .ok (.ifCond .eq 25, 3) := by decide +kernel
theorem d_Te_leapHere_14 : decode (yB Y_Te_leapHere) 14 = .ok (.aload_n 0, 1) := by decide +kernel
theorem d_Te_leapHere_15 : decode (yB Y_Te_leapHere) 15 = .ok (.getfield 16, 3) := by decide +kernel
theorem d_Te_leapHere_18 : decode (yB Y_Te_leapHere) 18 = .ok (.iload_n 1, 1) := by decide +kernel
theorem d_Te_leapHere_19 : decode (yB Y_Te_leapHere) 19 = .ok (.aload_n 0, 1) := by decide +kernel
theorem d_Te_leapHere_20 : decode (yB Y_Te_leapHere) 20 = .ok (.getfield 16, 3) := by decide +kernel
theorem d_Te_leapHere_23 : decode (yB Y_Te_leapHere) 23 = .ok (.iload_n 1, 1) := by decide +kernel
theorem d_Te_leapHere_24 : decode (yB Y_Te_leapHere) 24 = .ok (.iaload, 1) := by decide +kernel
theorem d_Te_leapHere_25 : decode (yB Y_Te_leapHere) 25 = .ok (.bipush 15, 2) := by decide +kernel
theorem d_Te_leapHere_27 : decode (yB Y_Te_leapHere) 27 = .ok (.iand, 1) := by decide +kernel
theorem d_Te_leapHere_28 : decode (yB Y_Te_leapHere) 28 = .ok (.aload_n 0, 1) := by decide +kernel
theorem d_Te_leapHere_29 : decode (yB Y_Te_leapHere) 29 = .ok (.getfield 7, 3) := by decide +kernel
theorem d_Te_leapHere_32 : decode (yB Y_Te_leapHere) 32 = .ok (.iconst 4, 1) := by decide +kernel
theorem d_Te_leapHere_33 : decode (yB Y_Te_leapHere) 33 = .ok (.ishl, 1) := by decide +kernel
theorem d_Te_leapHere_34 : decode (yB Y_Te_leapHere) 34 = .ok (.ior, 1) := by decide +kernel
theorem d_Te_leapHere_35 : decode (yB Y_Te_leapHere) 35 = .ok (.iastore, 1) := by decide +kernel
theorem d_Te_leapHere_36 : decode (yB Y_Te_leapHere) 36 = .ok (.return_, 1) := by decide +kernel
def F_Te_leapHere (n : Nat) (E : zE) (S : zS) (a0 : Nat) (x1 : Int32) (M : zH) : Option (zH) :=
  (zgI S M a0 9 5).bind fun v1 =>
  (F_NC_within n E S x1 0 (v1 - 1) M).bind fun q2 =>
  if q2.1 = true then
    (zgR S a0 9 0).bind fun b4 =>
    (zldI S q2.2 b4 x1).bind fun v5 =>
    (zgI S q2.2 a0 9 5).bind fun v6 =>
    (zstI S q2.2 b4 x1 ((v5 &&& (15 : Int32)) ||| (v6 <<< ((4 : Int32) &&& (31 : Int32))))).bind fun m7 =>
    some (m7)
  else
    some (q2.2)
theorem K_Te_leapHere (n : Nat) (E : zE) (S : zS) (a0 : Nat) (x1 : Int32) (M : zH) (M' : zH)  (h : F_Te_leapHere n E S a0 x1 M = some M') : zG E Y_Te_leapHere (none, S, M') 0 [(0, .ref a0), (1, .int x1)] [] S M 0 0 := by
  unfold F_Te_leapHere at h
  refine zi_iload_n 1 d_Te_leapHere_0 rfl ?_
  refine zi_iconst 0 d_Te_leapHere_1 rfl ?_
  refine zi_aload_n 0 d_Te_leapHere_2 rfl ?_
  obtain ⟨v1, ev1, h⟩ := zbind h
  refine zo_getI 6 zkd_9 5 d_Te_leapHere_3 ev1 rfl tw_195 rfl ?_
  refine zi_iconst 1 d_Te_leapHere_6 rfl ?_
  refine zi_isub d_Te_leapHere_7 ?_
  obtain ⟨q2, eq2, h⟩ := zbind h
  refine zo_statN (k' := 0) (n' := 0) 11 [.int x1, .int 0, .int (v1 - 1)] [] [.int (bI q2.1)] (C_NC_within n E S x1 0 (v1 - 1) M q2.1 q2.2 eq2) d_Te_leapHere_8 tw_399 (List.mem_of_getElem? (i := 8) rfl) tw_398 tw_1 dd_NC_within ⟨Nat.le_of_ble_eq_true rfl, Nat.le_of_ble_eq_true rfl, Nat.le_of_ble_eq_true rfl, Nat.le_of_ble_eq_true rfl⟩ (Nat.le_of_ble_eq_true rfl) rfl rfl rfl rfl ?_
  refine zo_ifeqB d_Te_leapHere_11 rfl 14 rfl (fun c3 => ?_) (fun c3 => ?_)
  · rw [if_neg c3] at h
    cases h
    exact zo_ret d_Te_leapHere_36 (Nat.le_of_ble_eq_true rfl) (Nat.le_of_ble_eq_true rfl) rfl
  · rw [if_pos c3] at h
    refine zi_aload_n 0 d_Te_leapHere_14 rfl ?_
    obtain ⟨b4, eb4, h⟩ := zbind h
    refine zo_getR 18 zkd_9 0 d_Te_leapHere_15 eb4 rfl tw_185 rfl ?_
    refine zi_iload_n 1 d_Te_leapHere_18 rfl ?_
    refine zi_aload_n 0 d_Te_leapHere_19 rfl ?_
    refine zo_getR 23 zkd_9 0 d_Te_leapHere_20 eb4 rfl tw_185 rfl ?_
    refine zi_iload_n 1 d_Te_leapHere_23 rfl ?_
    obtain ⟨v5, ev5, h⟩ := zbind h
    refine zo_iald 25 d_Te_leapHere_24 ev5 rfl ?_
    refine zi_bipush 15 d_Te_leapHere_25 rfl ?_
    refine zi_iand d_Te_leapHere_27 ?_
    refine zi_aload_n 0 d_Te_leapHere_28 rfl ?_
    obtain ⟨v6, ev6, h⟩ := zbind h
    refine zo_getI 32 zkd_9 5 d_Te_leapHere_29 ev6 rfl tw_195 rfl ?_
    refine zi_iconst 4 d_Te_leapHere_32 rfl ?_
    refine zi_ishl d_Te_leapHere_33 ?_
    refine zi_ior d_Te_leapHere_34 ?_
    obtain ⟨m7, em7, h⟩ := zbind h
    refine zo_iast 36 d_Te_leapHere_35 em7 rfl ?_
    cases h
    exact zo_ret d_Te_leapHere_36 (Nat.le_of_ble_eq_true rfl) (Nat.le_of_ble_eq_true rfl) rfl
theorem C_Te_leapHere (n : Nat) (E : zE) (S : zS) (a0 : Nat) (x1 : Int32) (M : zH) (M' : zH) (h : F_Te_leapHere n E S a0 x1 M = some M') : zC E Y_Te_leapHere [.ref a0, .int x1] S M (none, S, M') :=
  zC.of (Or.inl (show plainName "NightColander$Text" = true by decide)) (Nat.le_of_ble_eq_true rfl) (trivial) (K_Te_leapHere n E S a0 x1 M M' h)
theorem d_Ps_readBoth_0 : decode prog_7_method_8_code 0 = .ok (.aload_n 0, 1) := by decide +kernel
theorem d_Ps_readBoth_1 : decode prog_7_method_8_code 1 = .ok (.iload_n 1, 1) := by decide +kernel
theorem d_Ps_readBoth_2 : decode prog_7_method_8_code 2 = .ok (.invokevirtual 124, 3) := by decide +kernel
theorem d_Ps_readBoth_5 : decode prog_7_method_8_code 5 = .ok (.ifCond .ne 5, 3) := by decide +kernel
theorem d_Ps_readBoth_8 : decode prog_7_method_8_code 8 = .ok (.iconst 0, 1) := by decide +kernel
theorem d_Ps_readBoth_9 : decode prog_7_method_8_code 9 = .ok (.ireturn, 1) := by decide +kernel
theorem d_Ps_readBoth_10 : decode prog_7_method_8_code 10 = .ok (.iconst 0, 1) := by decide +kernel
theorem d_Ps_readBoth_11 : decode prog_7_method_8_code 11 = .ok (.istore_n 2, 1) := by decide +kernel
theorem d_Ps_readBoth_12 : decode prog_7_method_8_code 12 = .ok (.iload_n 2, 1) := by decide +kernel
theorem d_Ps_readBoth_13 : decode prog_7_method_8_code 13 = .ok (.sipush 400, 3) := by decide +kernel
theorem d_Ps_readBoth_16 : decode prog_7_method_8_code 16 = .ok (.if_icmp .ge 56, 3) := by decide +kernel
theorem d_Ps_readBoth_19 : decode prog_7_method_8_code 19 = .ok (.aload_n 0, 1) := by decide +kernel
theorem d_Ps_readBoth_20 : decode prog_7_method_8_code 20 = .ok (.getfield 26, 3) := by decide +kernel
theorem d_Ps_readBoth_23 : decode prog_7_method_8_code 23 = .ok (.ldc 127, 2) := by decide +kernel
theorem d_Ps_readBoth_25 : decode prog_7_method_8_code 25 = .ok (.invokevirtual 77, 3) := by decide +kernel
theorem d_Ps_readBoth_28 : decode prog_7_method_8_code 28 = .ok (.ifCond .eq 44, 3) := by decide +kernel
theorem d_Ps_readBoth_31 : decode prog_7_method_8_code 31 = .ok (.aload_n 0, 1) := by decide +kernel
theorem d_Ps_readBoth_32 : decode prog_7_method_8_code 32 = .ok (.getfield 26, 3) := by decide +kernel
theorem d_Ps_readBoth_35 : decode prog_7_method_8_code 35 = .ok (.invokevirtual 53, 3) := by decide +kernel
theorem d_Ps_readBoth_38 : decode prog_7_method_8_code 38 = .ok (.aload_n 0, 1) := by decide +kernel
theorem d_Ps_readBoth_39 : decode prog_7_method_8_code 39 = .ok (.getfield 12, 3) := by decide +kernel
theorem d_Ps_readBoth_42 : decode prog_7_method_8_code 42 = .ok (.iconst 3, 1) := by decide +kernel
theorem d_Ps_readBoth_43 : decode prog_7_method_8_code 43 = .ok (.iconst 0, 1) := by decide +kernel
theorem d_Ps_readBoth_44 : decode prog_7_method_8_code 44 = .ok (.invokevirtual 117, 3) := by decide +kernel
theorem d_Ps_readBoth_47 : decode prog_7_method_8_code 47 = .ok (.istore_n 3, 1) := by decide +kernel
theorem d_Ps_readBoth_48 : decode prog_7_method_8_code 48 = .ok (.aload_n 0, 1) := by decide +kernel
theorem d_Ps_readBoth_49 : decode prog_7_method_8_code 49 = .ok (.iload_n 1, 1) := by decide +kernel
theorem d_Ps_readBoth_50 : decode prog_7_method_8_code 50 = .ok (.invokevirtual 124, 3) := by decide +kernel
theorem d_Ps_readBoth_53 : decode prog_7_method_8_code 53 = .ok (.ifCond .ne 5, 3) := by decide +kernel
theorem d_Ps_readBoth_56 : decode prog_7_method_8_code 56 = .ok (.iconst 0, 1) := by decide +kernel
theorem d_Ps_readBoth_57 : decode prog_7_method_8_code 57 = .ok (.ireturn, 1) := by decide +kernel
theorem d_Ps_readBoth_58 : decode prog_7_method_8_code 58 = .ok (.aload_n 0, 1) := by decide +kernel
theorem d_Ps_readBoth_59 : decode prog_7_method_8_code 59 = .ok (.getfield 12, 3) := by decide +kernel
theorem d_Ps_readBoth_62 : decode prog_7_method_8_code 62 = .ok (.iload_n 3, 1) := by decide +kernel
theorem d_Ps_readBoth_63 : decode prog_7_method_8_code 63 = .ok (.invokevirtual 121, 3) := by decide +kernel
theorem d_Ps_readBoth_66 : decode prog_7_method_8_code 66 = .ok (.iinc 2 1, 3) := by decide +kernel
theorem d_Ps_readBoth_69 : decode prog_7_method_8_code 69 = .ok (.goto (-57), 3) := by decide +kernel
theorem d_Ps_readBoth_72 : decode prog_7_method_8_code 72 = .ok (.iconst 1, 1) := by decide +kernel
theorem d_Ps_readBoth_73 : decode prog_7_method_8_code 73 = .ok (.ireturn, 1) := by decide +kernel
def F_Ps_readBoth_L12 (n : Nat) (E : zE) (S : zS) (rc : Nat × Int32 × zH → Option (Bool × zH)) (r12 : Nat × Int32 × Int32 × zH → Option (Bool × zH)) (a0 : Nat) (x1 : Int32) (x2 : Int32) (M : zH) : Option (Bool × zH) :=
  if 400 ≤ x2 then
    some (true, M)
  else
    (zgR S a0 5 1).bind fun b2 =>
    (zck S b2 8).bind fun u3 =>
    (F_Ta_atWord n E S b2 12 M).bind fun q4 =>
    if q4.1 = true then
      (F_Ta_advance n E S b2 q4.2).bind fun q6 =>
      (zgR S a0 5 0).bind fun b7 =>
      (zck S b7 9).bind fun u8 =>
      (F_Te_add n E S b7 3 0 q6).bind fun q9 =>
      (F_Ps_readPlain n E S rc a0 x1 q9.2).bind fun q10 =>
      if q10.1 = true then
        (F_Te_leapHere n E S b7 q9.1 q10.2).bind fun q12 =>
        r12 (a0, x1, x2 + 1, q12)
      else
        some (false, q10.2)
    else
      some (true, q4.2)
def F_Ps_readBoth_b12 (n : Nat) (E : zE) (S : zS) (rc : Nat × Int32 × zH → Option (Bool × zH)) : Nat × Int32 × Int32 × zH → Option (Bool × zH) := zfix (fun r12 s => F_Ps_readBoth_L12 n E S rc r12 s.1 s.2.1 s.2.2.1 s.2.2.2) n
def F_Ps_readBoth (n : Nat) (E : zE) (S : zS) (rc : Nat × Int32 × zH → Option (Bool × zH)) (a0 : Nat) (x1 : Int32) (M : zH) : Option (Bool × zH) :=
  (zck S a0 5).bind fun u13 =>
  (F_Ps_readPlain n E S rc a0 x1 M).bind fun q14 =>
  if q14.1 = true then
    F_Ps_readBoth_b12 n E S rc (a0, x1, 0, q14.2)
  else
    some (false, q14.2)
theorem K_Ps_readBoth_L12 (d : Nat) (n : Nat) (E : zE) (S : zS) (rc : Nat × Int32 × zH → Option (Bool × zH)) (r12 : Nat × Int32 × Int32 × zH → Option (Bool × zH)) (a0 : Nat) (x1 : Int32) (x2 : Int32) (M : zH) (r : Bool) (M' : zH) (hrc : ∀ (p0 : Nat) (p1 : Int32) (M : zH) (r : Bool) (M' : zH), rc (p0, p1, M) = some (r, M') → zC E (Y_Ps_readTest d) [.ref p0, .int p1] S M (some (.int (bI r)), S, M')) (hr12 : ∀ (a0 : Nat) (x1 : Int32) (x2 : Int32) (M : zH), r12 (a0, x1, x2, M) = some (r, M') → zG E (Y_Ps_readBoth (d + 1)) (some (.int (bI r)), S, M') 12 [(0, .ref a0), (1, .int x1), (2, .int x2)] [] S M 0 0) (h : F_Ps_readBoth_L12 n E S rc r12 a0 x1 x2 M = some (r, M')) : zG E (Y_Ps_readBoth (d + 1)) (some (.int (bI r)), S, M') 12 [(0, .ref a0), (1, .int x1), (2, .int x2)] [] S M 0 0 := by
  unfold F_Ps_readBoth_L12 at h
  refine zi_iload_n 2 d_Ps_readBoth_12 rfl ?_
  refine zi_sipush 400 d_Ps_readBoth_13 rfl ?_
  refine zi_icmp_ge (tgt := 72) d_Ps_readBoth_16 rfl (fun c1 => ?_) (fun c1 => ?_)
  · rw [if_pos c1] at h
    refine zi_iconst 1 d_Ps_readBoth_72 rfl ?_
    cases h
    exact zo_retB d_Ps_readBoth_73 (Nat.le_of_ble_eq_true rfl) (Nat.le_of_ble_eq_true rfl) rfl
  · rw [if_neg c1] at h
    refine zi_aload_n 0 d_Ps_readBoth_19 rfl ?_
    obtain ⟨b2, eb2, h⟩ := zbind h
    refine zo_getR 23 zkd_5 1 d_Ps_readBoth_20 eb2 rfl tw_217 rfl ?_
    refine zi_ldcS d_Ps_readBoth_23 (zlit_12 E) ?_
    obtain ⟨u3, eu3, h⟩ := zbind h
    obtain ⟨q4, eq4, h⟩ := zbind h
    refine zo_virt (k' := 0) (n' := 0) 28 [.ref (eK E 12)] [] [.int (bI q4.1)] zkd_8 (zck_s eu3) (C_Ta_atWord n E S b2 12 M q4.1 q4.2 eq4) d_Ps_readBoth_25 tw_782 tw_779 tw_780 tw_781 tw_5 dd_Ta_atWord (by refine ⟨?_, ?_, ?_, ?_⟩ <;> simp only [yH, yL, yC, yS, Y_Ps_readBoth, Y_Ta_atWord] <;> omega) (Nat.le_of_ble_eq_true rfl) rfl rfl rfl rfl ?_
    refine zo_ifeqB d_Ps_readBoth_28 rfl 31 rfl (fun c5 => ?_) (fun c5 => ?_)
    · rw [if_neg c5] at h
      refine zi_iconst 1 d_Ps_readBoth_72 rfl ?_
      cases h
      exact zo_retB d_Ps_readBoth_73 (Nat.le_of_ble_eq_true rfl) (Nat.le_of_ble_eq_true rfl) rfl
    · rw [if_pos c5] at h
      refine zi_aload_n 0 d_Ps_readBoth_31 rfl ?_
      refine zo_getR 35 zkd_5 1 d_Ps_readBoth_32 eb2 rfl tw_217 rfl ?_
      obtain ⟨q6, eq6, h⟩ := zbind h
      refine zo_virt (k' := 0) (n' := 0) 38 [] [] [] zkd_8 (zck_s eu3) (C_Ta_advance n E S b2 q4.2 q6 eq6) d_Ps_readBoth_35 tw_577 tw_657 tw_575 tw_576 tw_5 dd_Ta_advance (by refine ⟨?_, ?_, ?_, ?_⟩ <;> simp only [yH, yL, yC, yS, Y_Ps_readBoth, Y_Ta_advance] <;> omega) (Nat.le_of_ble_eq_true rfl) rfl rfl rfl rfl ?_
      refine zi_aload_n 0 d_Ps_readBoth_38 rfl ?_
      obtain ⟨b7, eb7, h⟩ := zbind h
      refine zo_getR 42 zkd_5 0 d_Ps_readBoth_39 eb7 rfl tw_215 rfl ?_
      refine zi_iconst 3 d_Ps_readBoth_42 rfl ?_
      refine zi_iconst 0 d_Ps_readBoth_43 rfl ?_
      obtain ⟨u8, eu8, h⟩ := zbind h
      obtain ⟨q9, eq9, h⟩ := zbind h
      refine zo_virt (k' := 0) (n' := 0) 47 [.int 3, .int 0] [] [.int q9.1] zkd_9 (zck_s eu8) (C_Te_add n E S b7 3 0 q6 q9.1 q9.2 eq9) d_Ps_readBoth_44 tw_700 tw_697 tw_698 tw_699 tw_7 dd_Te_add (by refine ⟨?_, ?_, ?_, ?_⟩ <;> simp only [yH, yL, yC, yS, Y_Ps_readBoth, Y_Te_add] <;> omega) (Nat.le_of_ble_eq_true rfl) rfl rfl rfl rfl ?_
      refine zi_istore_n [(3, .int q9.1), (0, .ref a0), (1, .int x1), (2, .int x2)] d_Ps_readBoth_47 (Nat.le_of_ble_eq_true rfl) rfl ?_
      refine zi_aload_n 1 d_Ps_readBoth_48 rfl ?_
      refine zi_iload_n 2 d_Ps_readBoth_49 rfl ?_
      obtain ⟨q10, eq10, h⟩ := zbind h
      refine zo_virt (k' := 0) (n' := 0) 53 [.int x1] [] [.int (bI q10.1)] zkd_5 (zgR_s eb2).1 (C_Ps_readPlain d n E S rc a0 x1 q9.2 q10.1 q10.2 hrc eq10) d_Ps_readBoth_50 tw_804 tw_801 tw_803 ts_18 tw_6 dd_Ps_readPlain (by refine ⟨?_, ?_, ?_, ?_⟩ <;> simp only [yH, yL, yC, yS, Y_Ps_readBoth, Y_Ps_readPlain] <;> omega) (Nat.le_of_ble_eq_true rfl) rfl rfl rfl rfl ?_
      refine zo_ifneB d_Ps_readBoth_53 rfl 56 rfl (fun c11 => ?_) (fun c11 => ?_)
      · rw [if_pos c11] at h
        refine zi_aload_n 1 d_Ps_readBoth_58 rfl ?_
        refine zo_getR 62 zkd_5 0 d_Ps_readBoth_59 eb7 rfl tw_215 rfl ?_
        refine zi_iload_n 0 d_Ps_readBoth_62 rfl ?_
        obtain ⟨q12, eq12, h⟩ := zbind h
        refine zo_virt (k' := 0) (n' := 0) 66 [.int q9.1] [] [] zkd_9 (zck_s eu8) (C_Te_leapHere n E S b7 q9.1 q10.2 q12 eq12) d_Ps_readBoth_63 tw_819 tw_816 tw_817 tw_818 tw_7 dd_Te_leapHere (by refine ⟨?_, ?_, ?_, ?_⟩ <;> simp only [yH, yL, yC, yS, Y_Ps_readBoth, Y_Te_leapHere] <;> omega) (Nat.le_of_ble_eq_true rfl) rfl rfl rfl rfl ?_
        refine zi_iinc 3 (x2 + 1) [(2, .int (x2 + 1)), (3, .int q9.1), (0, .ref a0), (1, .int x1)] d_Ps_readBoth_66 rfl rfl (Nat.le_of_ble_eq_true rfl) rfl ?_
        refine zi_goto (tgt := 12) d_Ps_readBoth_69 rfl ?_
        refine zi_lo [(0, .ref a0), (1, .int x1), (2, .int (x2 + 1))] [2, 3, 0] rfl ?_
        exact hr12 a0 x1 (x2 + 1) q12 h
      · rw [if_neg c11] at h
        refine zi_iconst 0 d_Ps_readBoth_56 rfl ?_
        cases h
        exact zo_retB d_Ps_readBoth_57 (Nat.le_of_ble_eq_true rfl) (Nat.le_of_ble_eq_true rfl) rfl
theorem K_Ps_readBoth_b12 (d : Nat) (n : Nat) (E : zE) (S : zS) (rc : Nat × Int32 × zH → Option (Bool × zH)) (a0 : Nat) (x1 : Int32) (x2 : Int32) (M : zH) (r : Bool) (M' : zH) (hrc : ∀ (p0 : Nat) (p1 : Int32) (M : zH) (r : Bool) (M' : zH), rc (p0, p1, M) = some (r, M') → zC E (Y_Ps_readTest d) [.ref p0, .int p1] S M (some (.int (bI r)), S, M'))  (h : F_Ps_readBoth_b12 n E S rc (a0, x1, x2, M) = some (r, M')) : zG E (Y_Ps_readBoth (d + 1)) (some (.int (bI r)), S, M') 12 [(0, .ref a0), (1, .int x1), (2, .int x2)] [] S M 0 0 := by
  have key : ∀ (k : Nat) (a0 : Nat) (x1 : Int32) (x2 : Int32) (M : zH), zfix (fun r12 s => F_Ps_readBoth_L12 n E S rc r12 s.1 s.2.1 s.2.2.1 s.2.2.2) k (a0, x1, x2, M) = some (r, M') → zG E (Y_Ps_readBoth (d + 1)) (some (.int (bI r)), S, M') 12 [(0, .ref a0), (1, .int x1), (2, .int x2)] [] S M 0 0 := by
    intro k
    induction k with
    | zero => intro a0 x1 x2 M h; cases h
    | succ k ih => intro a0 x1 x2 M h; exact K_Ps_readBoth_L12 d n E S rc _ a0 x1 x2 M r M' hrc  (fun a0 x1 x2 M h => ih a0 x1 x2 M h) h
  exact key n a0 x1 x2 M h
theorem K_Ps_readBoth (d : Nat) (n : Nat) (E : zE) (S : zS) (rc : Nat × Int32 × zH → Option (Bool × zH)) (a0 : Nat) (x1 : Int32) (M : zH) (r : Bool) (M' : zH) (hrc : ∀ (p0 : Nat) (p1 : Int32) (M : zH) (r : Bool) (M' : zH), rc (p0, p1, M) = some (r, M') → zC E (Y_Ps_readTest d) [.ref p0, .int p1] S M (some (.int (bI r)), S, M'))  (h : F_Ps_readBoth n E S rc a0 x1 M = some (r, M')) : zG E (Y_Ps_readBoth (d + 1)) (some (.int (bI r)), S, M') 0 [(0, .ref a0), (1, .int x1)] [] S M 0 0 := by
  unfold F_Ps_readBoth at h
  refine zi_aload_n 0 d_Ps_readBoth_0 rfl ?_
  refine zi_iload_n 1 d_Ps_readBoth_1 rfl ?_
  obtain ⟨u13, eu13, h⟩ := zbind h
  obtain ⟨q14, eq14, h⟩ := zbind h
  refine zo_virt (k' := 0) (n' := 0) 5 [.int x1] [] [.int (bI q14.1)] zkd_5 (zck_s eu13) (C_Ps_readPlain d n E S rc a0 x1 M q14.1 q14.2 hrc eq14) d_Ps_readBoth_2 tw_804 tw_801 tw_803 ts_18 tw_6 dd_Ps_readPlain (by refine ⟨?_, ?_, ?_, ?_⟩ <;> simp only [yH, yL, yC, yS, Y_Ps_readBoth, Y_Ps_readPlain] <;> omega) (Nat.le_of_ble_eq_true rfl) rfl rfl rfl rfl ?_
  refine zo_ifneB d_Ps_readBoth_5 rfl 8 rfl (fun c15 => ?_) (fun c15 => ?_)
  · rw [if_pos c15] at h
    refine zi_iconst 0 d_Ps_readBoth_10 rfl ?_
    refine zi_istore_n [(2, .int 0), (0, .ref a0), (1, .int x1)] d_Ps_readBoth_11 (Nat.le_of_ble_eq_true rfl) rfl ?_
    refine zi_lo [(0, .ref a0), (1, .int x1), (2, .int 0)] [1, 2, 0] rfl ?_
    exact K_Ps_readBoth_b12 d n E S rc a0 x1 0 q14.2 r M' hrc  h
  · rw [if_neg c15] at h
    refine zi_iconst 0 d_Ps_readBoth_8 rfl ?_
    cases h
    exact zo_retB d_Ps_readBoth_9 (Nat.le_of_ble_eq_true rfl) (Nat.le_of_ble_eq_true rfl) rfl
theorem C_Ps_readBoth (d : Nat) (n : Nat) (E : zE) (S : zS) (rc : Nat × Int32 × zH → Option (Bool × zH)) (a0 : Nat) (x1 : Int32) (M : zH) (r : Bool) (M' : zH) (hrc : ∀ (p0 : Nat) (p1 : Int32) (M : zH) (r : Bool) (M' : zH), rc (p0, p1, M) = some (r, M') → zC E (Y_Ps_readTest d) [.ref p0, .int p1] S M (some (.int (bI r)), S, M')) (h : F_Ps_readBoth n E S rc a0 x1 M = some (r, M')) : zC E (Y_Ps_readBoth (d + 1)) [.ref a0, .int x1] S M (some (.int (bI r)), S, M') :=
  zC.of (Or.inl (show plainName "NightColander$Parser" = true by decide)) (Nat.le_of_ble_eq_true rfl) (bI_nar r) (K_Ps_readBoth d n E S rc a0 x1 M r M' hrc h)
theorem d_Ps_readTest_0 : decode prog_7_method_7_code 0 = .ok (.aload_n 0, 1) := by decide +kernel
theorem d_Ps_readTest_1 : decode prog_7_method_7_code 1 = .ok (.iload_n 1, 1) := by decide +kernel
theorem d_Ps_readTest_2 : decode prog_7_method_7_code 2 = .ok (.invokevirtual 112, 3) := by decide +kernel
theorem d_Ps_readTest_5 : decode prog_7_method_7_code 5 = .ok (.ifCond .ne 5, 3) := by decide +kernel
theorem d_Ps_readTest_8 : decode prog_7_method_7_code 8 = .ok (.iconst 0, 1) := by decide +kernel
theorem d_Ps_readTest_9 : decode prog_7_method_7_code 9 = .ok (.ireturn, 1) := by decide +kernel
theorem d_Ps_readTest_10 : decode prog_7_method_7_code 10 = .ok (.iconst 0, 1) := by decide +kernel
theorem d_Ps_readTest_11 : decode prog_7_method_7_code 11 = .ok (.istore_n 2, 1) := by decide +kernel
theorem d_Ps_readTest_12 : decode prog_7_method_7_code 12 = .ok (.iload_n 2, 1) := by decide +kernel
theorem d_Ps_readTest_13 : decode prog_7_method_7_code 13 = .ok (.sipush 400, 3) := by decide +kernel
theorem d_Ps_readTest_16 : decode prog_7_method_7_code 16 = .ok (.if_icmp .ge 56, 3) := by decide +kernel
theorem d_Ps_readTest_19 : decode prog_7_method_7_code 19 = .ok (.aload_n 0, 1) := by decide +kernel
theorem d_Ps_readTest_20 : decode prog_7_method_7_code 20 = .ok (.getfield 26, 3) := by decide +kernel
theorem d_Ps_readTest_23 : decode prog_7_method_7_code 23 = .ok (.ldc 115, 2) := by decide +kernel
theorem d_Ps_readTest_25 : decode prog_7_method_7_code 25 = .ok (.invokevirtual 77, 3) := by decide +kernel
theorem d_Ps_readTest_28 : decode prog_7_method_7_code 28 = .ok (.ifCond .eq 44, 3) := by decide +kernel
theorem d_Ps_readTest_31 : decode prog_7_method_7_code 31 = .ok (.aload_n 0, 1) := by decide +kernel
theorem d_Ps_readTest_32 : decode prog_7_method_7_code 32 = .ok (.getfield 26, 3) := by decide +kernel
theorem d_Ps_readTest_35 : decode prog_7_method_7_code 35 = .ok (.invokevirtual 53, 3) := by decide +kernel
theorem d_Ps_readTest_38 : decode prog_7_method_7_code 38 = .ok (.aload_n 0, 1) := by decide +kernel
theorem d_Ps_readTest_39 : decode prog_7_method_7_code 39 = .ok (.getfield 12, 3) := by decide +kernel
theorem d_Ps_readTest_42 : decode prog_7_method_7_code 42 = .ok (.iconst 4, 1) := by decide +kernel
theorem d_Ps_readTest_43 : decode prog_7_method_7_code 43 = .ok (.iconst 0, 1) := by decide +kernel
theorem d_Ps_readTest_44 : decode prog_7_method_7_code 44 = .ok (.invokevirtual 117, 3) := by decide +kernel
theorem d_Ps_readTest_47 : decode prog_7_method_7_code 47 = .ok (.istore_n 3, 1) := by decide +kernel
theorem d_Ps_readTest_48 : decode prog_7_method_7_code 48 = .ok (.aload_n 0, 1) := by decide +kernel
theorem d_Ps_readTest_49 : decode prog_7_method_7_code 49 = .ok (.iload_n 1, 1) := by decide +kernel
theorem d_Ps_readTest_50 : decode prog_7_method_7_code 50 = .ok (.invokevirtual 112, 3) := by decide +kernel
theorem d_Ps_readTest_53 : decode prog_7_method_7_code 53 = .ok (.ifCond .ne 5, 3) := by decide +kernel
theorem d_Ps_readTest_56 : decode prog_7_method_7_code 56 = .ok (.iconst 0, 1) := by decide +kernel
theorem d_Ps_readTest_57 : decode prog_7_method_7_code 57 = .ok (.ireturn, 1) := by decide +kernel
theorem d_Ps_readTest_58 : decode prog_7_method_7_code 58 = .ok (.aload_n 0, 1) := by decide +kernel
theorem d_Ps_readTest_59 : decode prog_7_method_7_code 59 = .ok (.getfield 12, 3) := by decide +kernel
theorem d_Ps_readTest_62 : decode prog_7_method_7_code 62 = .ok (.iload_n 3, 1) := by decide +kernel
theorem d_Ps_readTest_63 : decode prog_7_method_7_code 63 = .ok (.invokevirtual 121, 3) := by decide +kernel
theorem d_Ps_readTest_66 : decode prog_7_method_7_code 66 = .ok (.iinc 2 1, 3) := by decide +kernel
theorem d_Ps_readTest_69 : decode prog_7_method_7_code 69 = .ok (.goto (-57), 3) := by decide +kernel
theorem d_Ps_readTest_72 : decode prog_7_method_7_code 72 = .ok (.iconst 1, 1) := by decide +kernel
theorem d_Ps_readTest_73 : decode prog_7_method_7_code 73 = .ok (.ireturn, 1) := by decide +kernel
def F_Ps_readTest_L12 (n : Nat) (E : zE) (S : zS) (rc : Nat × Int32 × zH → Option (Bool × zH)) (r12 : Nat × Int32 × Int32 × zH → Option (Bool × zH)) (a0 : Nat) (x1 : Int32) (x2 : Int32) (M : zH) : Option (Bool × zH) :=
  if 400 ≤ x2 then
    some (true, M)
  else
    (zgR S a0 5 1).bind fun b2 =>
    (zck S b2 8).bind fun u3 =>
    (F_Ta_atWord n E S b2 13 M).bind fun q4 =>
    if q4.1 = true then
      (F_Ta_advance n E S b2 q4.2).bind fun q6 =>
      (zgR S a0 5 0).bind fun b7 =>
      (zck S b7 9).bind fun u8 =>
      (F_Te_add n E S b7 4 0 q6).bind fun q9 =>
      (F_Ps_readBoth n E S rc a0 x1 q9.2).bind fun q10 =>
      if q10.1 = true then
        (F_Te_leapHere n E S b7 q9.1 q10.2).bind fun q12 =>
        r12 (a0, x1, x2 + 1, q12)
      else
        some (false, q10.2)
    else
      some (true, q4.2)
def F_Ps_readTest_b12 (n : Nat) (E : zE) (S : zS) (rc : Nat × Int32 × zH → Option (Bool × zH)) : Nat × Int32 × Int32 × zH → Option (Bool × zH) := zfix (fun r12 s => F_Ps_readTest_L12 n E S rc r12 s.1 s.2.1 s.2.2.1 s.2.2.2) n
def F_Ps_readTest (n : Nat) (E : zE) (S : zS) (rc : Nat × Int32 × zH → Option (Bool × zH)) (a0 : Nat) (x1 : Int32) (M : zH) : Option (Bool × zH) :=
  (zck S a0 5).bind fun u13 =>
  (F_Ps_readBoth n E S rc a0 x1 M).bind fun q14 =>
  if q14.1 = true then
    F_Ps_readTest_b12 n E S rc (a0, x1, 0, q14.2)
  else
    some (false, q14.2)
theorem K_Ps_readTest_L12 (d : Nat) (n : Nat) (E : zE) (S : zS) (rc : Nat × Int32 × zH → Option (Bool × zH)) (r12 : Nat × Int32 × Int32 × zH → Option (Bool × zH)) (a0 : Nat) (x1 : Int32) (x2 : Int32) (M : zH) (r : Bool) (M' : zH) (hrc : ∀ (p0 : Nat) (p1 : Int32) (M : zH) (r : Bool) (M' : zH), rc (p0, p1, M) = some (r, M') → zC E (Y_Ps_readTest d) [.ref p0, .int p1] S M (some (.int (bI r)), S, M')) (hr12 : ∀ (a0 : Nat) (x1 : Int32) (x2 : Int32) (M : zH), r12 (a0, x1, x2, M) = some (r, M') → zG E (Y_Ps_readTest (d + 1)) (some (.int (bI r)), S, M') 12 [(0, .ref a0), (1, .int x1), (2, .int x2)] [] S M 0 0) (h : F_Ps_readTest_L12 n E S rc r12 a0 x1 x2 M = some (r, M')) : zG E (Y_Ps_readTest (d + 1)) (some (.int (bI r)), S, M') 12 [(0, .ref a0), (1, .int x1), (2, .int x2)] [] S M 0 0 := by
  unfold F_Ps_readTest_L12 at h
  refine zi_iload_n 2 d_Ps_readTest_12 rfl ?_
  refine zi_sipush 400 d_Ps_readTest_13 rfl ?_
  refine zi_icmp_ge (tgt := 72) d_Ps_readTest_16 rfl (fun c1 => ?_) (fun c1 => ?_)
  · rw [if_pos c1] at h
    refine zi_iconst 1 d_Ps_readTest_72 rfl ?_
    cases h
    exact zo_retB d_Ps_readTest_73 (Nat.le_of_ble_eq_true rfl) (Nat.le_of_ble_eq_true rfl) rfl
  · rw [if_neg c1] at h
    refine zi_aload_n 0 d_Ps_readTest_19 rfl ?_
    obtain ⟨b2, eb2, h⟩ := zbind h
    refine zo_getR 23 zkd_5 1 d_Ps_readTest_20 eb2 rfl tw_217 rfl ?_
    refine zi_ldcS d_Ps_readTest_23 (zlit_13 E) ?_
    obtain ⟨u3, eu3, h⟩ := zbind h
    obtain ⟨q4, eq4, h⟩ := zbind h
    refine zo_virt (k' := 0) (n' := 0) 28 [.ref (eK E 13)] [] [.int (bI q4.1)] zkd_8 (zck_s eu3) (C_Ta_atWord n E S b2 13 M q4.1 q4.2 eq4) d_Ps_readTest_25 tw_782 tw_779 tw_780 tw_781 tw_5 dd_Ta_atWord (by refine ⟨?_, ?_, ?_, ?_⟩ <;> simp only [yH, yL, yC, yS, Y_Ps_readTest, Y_Ta_atWord] <;> omega) (Nat.le_of_ble_eq_true rfl) rfl rfl rfl rfl ?_
    refine zo_ifeqB d_Ps_readTest_28 rfl 31 rfl (fun c5 => ?_) (fun c5 => ?_)
    · rw [if_neg c5] at h
      refine zi_iconst 1 d_Ps_readTest_72 rfl ?_
      cases h
      exact zo_retB d_Ps_readTest_73 (Nat.le_of_ble_eq_true rfl) (Nat.le_of_ble_eq_true rfl) rfl
    · rw [if_pos c5] at h
      refine zi_aload_n 0 d_Ps_readTest_31 rfl ?_
      refine zo_getR 35 zkd_5 1 d_Ps_readTest_32 eb2 rfl tw_217 rfl ?_
      obtain ⟨q6, eq6, h⟩ := zbind h
      refine zo_virt (k' := 0) (n' := 0) 38 [] [] [] zkd_8 (zck_s eu3) (C_Ta_advance n E S b2 q4.2 q6 eq6) d_Ps_readTest_35 tw_577 tw_657 tw_575 tw_576 tw_5 dd_Ta_advance (by refine ⟨?_, ?_, ?_, ?_⟩ <;> simp only [yH, yL, yC, yS, Y_Ps_readTest, Y_Ta_advance] <;> omega) (Nat.le_of_ble_eq_true rfl) rfl rfl rfl rfl ?_
      refine zi_aload_n 0 d_Ps_readTest_38 rfl ?_
      obtain ⟨b7, eb7, h⟩ := zbind h
      refine zo_getR 42 zkd_5 0 d_Ps_readTest_39 eb7 rfl tw_215 rfl ?_
      refine zi_iconst 4 d_Ps_readTest_42 rfl ?_
      refine zi_iconst 0 d_Ps_readTest_43 rfl ?_
      obtain ⟨u8, eu8, h⟩ := zbind h
      obtain ⟨q9, eq9, h⟩ := zbind h
      refine zo_virt (k' := 0) (n' := 0) 47 [.int 4, .int 0] [] [.int q9.1] zkd_9 (zck_s eu8) (C_Te_add n E S b7 4 0 q6 q9.1 q9.2 eq9) d_Ps_readTest_44 tw_700 tw_697 tw_698 tw_699 tw_7 dd_Te_add (by refine ⟨?_, ?_, ?_, ?_⟩ <;> simp only [yH, yL, yC, yS, Y_Ps_readTest, Y_Te_add] <;> omega) (Nat.le_of_ble_eq_true rfl) rfl rfl rfl rfl ?_
      refine zi_istore_n [(3, .int q9.1), (0, .ref a0), (1, .int x1), (2, .int x2)] d_Ps_readTest_47 (Nat.le_of_ble_eq_true rfl) rfl ?_
      refine zi_aload_n 1 d_Ps_readTest_48 rfl ?_
      refine zi_iload_n 2 d_Ps_readTest_49 rfl ?_
      obtain ⟨q10, eq10, h⟩ := zbind h
      refine zo_virt (k' := 0) (n' := 0) 53 [.int x1] [] [.int (bI q10.1)] zkd_5 (zgR_s eb2).1 (C_Ps_readBoth d n E S rc a0 x1 q9.2 q10.1 q10.2 hrc eq10) d_Ps_readTest_50 tw_800 tw_797 tw_799 ts_17 tw_6 dd_Ps_readBoth (by refine ⟨?_, ?_, ?_, ?_⟩ <;> simp only [yH, yL, yC, yS, Y_Ps_readTest, Y_Ps_readBoth] <;> omega) (Nat.le_of_ble_eq_true rfl) rfl rfl rfl rfl ?_
      refine zo_ifneB d_Ps_readTest_53 rfl 56 rfl (fun c11 => ?_) (fun c11 => ?_)
      · rw [if_pos c11] at h
        refine zi_aload_n 1 d_Ps_readTest_58 rfl ?_
        refine zo_getR 62 zkd_5 0 d_Ps_readTest_59 eb7 rfl tw_215 rfl ?_
        refine zi_iload_n 0 d_Ps_readTest_62 rfl ?_
        obtain ⟨q12, eq12, h⟩ := zbind h
        refine zo_virt (k' := 0) (n' := 0) 66 [.int q9.1] [] [] zkd_9 (zck_s eu8) (C_Te_leapHere n E S b7 q9.1 q10.2 q12 eq12) d_Ps_readTest_63 tw_819 tw_816 tw_817 tw_818 tw_7 dd_Te_leapHere (by refine ⟨?_, ?_, ?_, ?_⟩ <;> simp only [yH, yL, yC, yS, Y_Ps_readTest, Y_Te_leapHere] <;> omega) (Nat.le_of_ble_eq_true rfl) rfl rfl rfl rfl ?_
        refine zi_iinc 3 (x2 + 1) [(2, .int (x2 + 1)), (3, .int q9.1), (0, .ref a0), (1, .int x1)] d_Ps_readTest_66 rfl rfl (Nat.le_of_ble_eq_true rfl) rfl ?_
        refine zi_goto (tgt := 12) d_Ps_readTest_69 rfl ?_
        refine zi_lo [(0, .ref a0), (1, .int x1), (2, .int (x2 + 1))] [2, 3, 0] rfl ?_
        exact hr12 a0 x1 (x2 + 1) q12 h
      · rw [if_neg c11] at h
        refine zi_iconst 0 d_Ps_readTest_56 rfl ?_
        cases h
        exact zo_retB d_Ps_readTest_57 (Nat.le_of_ble_eq_true rfl) (Nat.le_of_ble_eq_true rfl) rfl
theorem K_Ps_readTest_b12 (d : Nat) (n : Nat) (E : zE) (S : zS) (rc : Nat × Int32 × zH → Option (Bool × zH)) (a0 : Nat) (x1 : Int32) (x2 : Int32) (M : zH) (r : Bool) (M' : zH) (hrc : ∀ (p0 : Nat) (p1 : Int32) (M : zH) (r : Bool) (M' : zH), rc (p0, p1, M) = some (r, M') → zC E (Y_Ps_readTest d) [.ref p0, .int p1] S M (some (.int (bI r)), S, M'))  (h : F_Ps_readTest_b12 n E S rc (a0, x1, x2, M) = some (r, M')) : zG E (Y_Ps_readTest (d + 1)) (some (.int (bI r)), S, M') 12 [(0, .ref a0), (1, .int x1), (2, .int x2)] [] S M 0 0 := by
  have key : ∀ (k : Nat) (a0 : Nat) (x1 : Int32) (x2 : Int32) (M : zH), zfix (fun r12 s => F_Ps_readTest_L12 n E S rc r12 s.1 s.2.1 s.2.2.1 s.2.2.2) k (a0, x1, x2, M) = some (r, M') → zG E (Y_Ps_readTest (d + 1)) (some (.int (bI r)), S, M') 12 [(0, .ref a0), (1, .int x1), (2, .int x2)] [] S M 0 0 := by
    intro k
    induction k with
    | zero => intro a0 x1 x2 M h; cases h
    | succ k ih => intro a0 x1 x2 M h; exact K_Ps_readTest_L12 d n E S rc _ a0 x1 x2 M r M' hrc  (fun a0 x1 x2 M h => ih a0 x1 x2 M h) h
  exact key n a0 x1 x2 M h
theorem K_Ps_readTest (d : Nat) (n : Nat) (E : zE) (S : zS) (rc : Nat × Int32 × zH → Option (Bool × zH)) (a0 : Nat) (x1 : Int32) (M : zH) (r : Bool) (M' : zH) (hrc : ∀ (p0 : Nat) (p1 : Int32) (M : zH) (r : Bool) (M' : zH), rc (p0, p1, M) = some (r, M') → zC E (Y_Ps_readTest d) [.ref p0, .int p1] S M (some (.int (bI r)), S, M'))  (h : F_Ps_readTest n E S rc a0 x1 M = some (r, M')) : zG E (Y_Ps_readTest (d + 1)) (some (.int (bI r)), S, M') 0 [(0, .ref a0), (1, .int x1)] [] S M 0 0 := by
  unfold F_Ps_readTest at h
  refine zi_aload_n 0 d_Ps_readTest_0 rfl ?_
  refine zi_iload_n 1 d_Ps_readTest_1 rfl ?_
  obtain ⟨u13, eu13, h⟩ := zbind h
  obtain ⟨q14, eq14, h⟩ := zbind h
  refine zo_virt (k' := 0) (n' := 0) 5 [.int x1] [] [.int (bI q14.1)] zkd_5 (zck_s eu13) (C_Ps_readBoth d n E S rc a0 x1 M q14.1 q14.2 hrc eq14) d_Ps_readTest_2 tw_800 tw_797 tw_799 ts_17 tw_6 dd_Ps_readBoth (by refine ⟨?_, ?_, ?_, ?_⟩ <;> simp only [yH, yL, yC, yS, Y_Ps_readTest, Y_Ps_readBoth] <;> omega) (Nat.le_of_ble_eq_true rfl) rfl rfl rfl rfl ?_
  refine zo_ifneB d_Ps_readTest_5 rfl 8 rfl (fun c15 => ?_) (fun c15 => ?_)
  · rw [if_pos c15] at h
    refine zi_iconst 0 d_Ps_readTest_10 rfl ?_
    refine zi_istore_n [(2, .int 0), (0, .ref a0), (1, .int x1)] d_Ps_readTest_11 (Nat.le_of_ble_eq_true rfl) rfl ?_
    refine zi_lo [(0, .ref a0), (1, .int x1), (2, .int 0)] [1, 2, 0] rfl ?_
    exact K_Ps_readTest_b12 d n E S rc a0 x1 0 q14.2 r M' hrc  h
  · rw [if_neg c15] at h
    refine zi_iconst 0 d_Ps_readTest_8 rfl ?_
    cases h
    exact zo_retB d_Ps_readTest_9 (Nat.le_of_ble_eq_true rfl) (Nat.le_of_ble_eq_true rfl) rfl
theorem C_Ps_readTest (d : Nat) (n : Nat) (E : zE) (S : zS) (rc : Nat × Int32 × zH → Option (Bool × zH)) (a0 : Nat) (x1 : Int32) (M : zH) (r : Bool) (M' : zH) (hrc : ∀ (p0 : Nat) (p1 : Int32) (M : zH) (r : Bool) (M' : zH), rc (p0, p1, M) = some (r, M') → zC E (Y_Ps_readTest d) [.ref p0, .int p1] S M (some (.int (bI r)), S, M')) (h : F_Ps_readTest n E S rc a0 x1 M = some (r, M')) : zC E (Y_Ps_readTest (d + 1)) [.ref a0, .int x1] S M (some (.int (bI r)), S, M') :=
  zC.of (Or.inl (show plainName "NightColander$Parser" = true by decide)) (Nat.le_of_ble_eq_true rfl) (bI_nar r) (K_Ps_readTest d n E S rc a0 x1 M r M' hrc h)
def F_Ps_readTest_D (n : Nat) (E : zE) (S : zS) : Nat → (Nat × Int32 × zH) → Option (Bool × zH)
  | 0 => fun _ => none
  | d + 1 => fun s => F_Ps_readTest n E S (F_Ps_readTest_D n E S d) s.1 s.2.1 s.2.2
theorem C_Ps_readTest_D (n : Nat) (E : zE) (S : zS) (d : Nat) : ∀ (a0 : Nat) (x1 : Int32) (M : zH) (r : Bool) (M' : zH) (h : F_Ps_readTest_D n E S d (a0, x1, M) = some (r, M')), zC E (Y_Ps_readTest d) [.ref a0, .int x1] S M (some (.int (bI r)), S, M') := by
  induction d with
  | zero => intro a0 x1 M r M' h; cases h
  | succ d ih => intro a0 x1 M r M' h; exact C_Ps_readTest d n E S _ a0 x1 M r M' (fun a0 x1 M r M' h => ih a0 x1 M r M' h) h
theorem d_Te_closeClause_0 : decode (yB Y_Te_closeClause) 0 = .ok (.aload_n 0, 1) := by decide +kernel
theorem d_Te_closeClause_1 : decode (yB Y_Te_closeClause) 1 = .ok (.iconst 3, 1) := by decide +kernel
theorem d_Te_closeClause_2 : decode (yB Y_Te_closeClause) 2 = .ok (.invokevirtual 47, 3) := by decide +kernel
theorem d_Te_closeClause_5 : decode (yB Y_Te_closeClause) 5 = .ok (.aload_n 0, 1) := by decide +kernel
theorem d_Te_closeClause_6 : decode (yB Y_Te_closeClause) 6 = .ok (.dup, 1) := by decide +kernel
theorem d_Te_closeClause_7 : decode (yB Y_Te_closeClause) 7 = .ok (.getfield 13, 3) := by decide +kernel
theorem d_Te_closeClause_10 : decode (yB Y_Te_closeClause) 10 = .ok (.iconst 1, 1) := by decide +kernel
theorem d_Te_closeClause_11 : decode (yB Y_Te_closeClause) 11 = .ok (.iadd, 1) := by decide +kernel
theorem d_Te_closeClause_12 : decode (yB Y_Te_closeClause) 12 = .ok (.putfield 13, 3) := by decide +kernel
theorem d_Te_closeClause_15 : decode (yB Y_Te_closeClause) 15 = .ok (.return_, 1) := by decide +kernel
def F_Te_closeClause (n : Nat) (E : zE) (S : zS) (a0 : Nat) (M : zH) : Option (zH) :=
  (zck S a0 9).bind fun u1 =>
  (F_Te_mark n E S a0 3 M).bind fun q2 =>
  (zgI S q2 a0 9 6).bind fun v3 =>
  (zpI S q2 a0 9 6 (v3 + 1)).bind fun m4 =>
  some (m4)
theorem K_Te_closeClause (n : Nat) (E : zE) (S : zS) (a0 : Nat) (M : zH) (M' : zH)  (h : F_Te_closeClause n E S a0 M = some M') : zG E Y_Te_closeClause (none, S, M') 0 [(0, .ref a0)] [] S M 0 0 := by
  unfold F_Te_closeClause at h
  refine zi_aload_n 0 d_Te_closeClause_0 rfl ?_
  refine zi_iconst 3 d_Te_closeClause_1 rfl ?_
  obtain ⟨u1, eu1, h⟩ := zbind h
  obtain ⟨q2, eq2, h⟩ := zbind h
  refine zo_virt (k' := 0) (n' := 0) 5 [.int 3] [] [] zkd_9 (zck_s eu1) (C_Te_mark n E S a0 3 M q2 eq2) d_Te_closeClause_2 tw_655 tw_652 tw_653 tw_654 tw_7 dd_Te_mark ⟨Nat.le_of_ble_eq_true rfl, Nat.le_of_ble_eq_true rfl, Nat.le_of_ble_eq_true rfl, Nat.le_of_ble_eq_true rfl⟩ (Nat.le_of_ble_eq_true rfl) rfl rfl rfl rfl ?_
  refine zi_aload_n 0 d_Te_closeClause_5 rfl ?_
  refine zi_dup d_Te_closeClause_6 rfl ?_
  obtain ⟨v3, ev3, h⟩ := zbind h
  refine zo_getI 10 zkd_9 6 d_Te_closeClause_7 ev3 rfl tw_197 rfl ?_
  refine zi_iconst 1 d_Te_closeClause_10 rfl ?_
  refine zi_iadd d_Te_closeClause_11 ?_
  obtain ⟨m4, em4, h⟩ := zbind h
  refine zo_putI 15 zkd_9 6 d_Te_closeClause_12 em4 rfl rfl rfl tw_197 rfl ?_
  cases h
  exact zo_ret d_Te_closeClause_15 (Nat.le_of_ble_eq_true rfl) (Nat.le_of_ble_eq_true rfl) rfl
theorem C_Te_closeClause (n : Nat) (E : zE) (S : zS) (a0 : Nat) (M : zH) (M' : zH) (h : F_Te_closeClause n E S a0 M = some M') : zC E Y_Te_closeClause [.ref a0] S M (none, S, M') :=
  zC.of (Or.inl (show plainName "NightColander$Text" = true by decide)) (Nat.le_of_ble_eq_true rfl) (trivial) (K_Te_closeClause n E S a0 M M' h)
theorem d_Te_openClause_0 : decode (yB Y_Te_openClause) 0 = .ok (.aload_n 0, 1) := by decide +kernel
theorem d_Te_openClause_1 : decode (yB Y_Te_openClause) 1 = .ok (.getfield 13, 3) := by decide +kernel
theorem d_Te_openClause_4 : decode (yB Y_Te_openClause) 4 = .ok (.bipush 12, 2) := by decide +kernel
theorem d_Te_openClause_6 : decode (yB Y_Te_openClause) 6 = .ok (.if_icmp .ge 38, 3) := by decide +kernel
theorem d_Te_openClause_9 : decode (yB Y_Te_openClause) 9 = .ok (.aload_n 0, 1) := by decide +kernel
theorem d_Te_openClause_10 : decode (yB Y_Te_openClause) 10 = .ok (.getfield 20, 3) := by decide +kernel
theorem d_Te_openClause_13 : decode (yB Y_Te_openClause) 13 = .ok (.aload_n 0, 1) := by decide +kernel
theorem d_Te_openClause_14 : decode (yB Y_Te_openClause) 14 = .ok (.getfield 13, 3) := by decide +kernel
theorem d_Te_openClause_17 : decode (yB Y_Te_openClause) 17 = .ok (.iload_n 1, 1) := by decide +kernel
theorem d_Te_openClause_18 : decode (yB Y_Te_openClause) 18 = .ok (.iastore, 1) := by decide +kernel
theorem d_Te_openClause_19 : decode (yB Y_Te_openClause) 19 = .ok (.aload_n 0, 1) := by decide +kernel
theorem d_Te_openClause_20 : decode (yB Y_Te_openClause) 20 = .ok (.getfield 23, 3) := by decide +kernel
theorem d_Te_openClause_23 : decode (yB Y_Te_openClause) 23 = .ok (.aload_n 0, 1) := by decide +kernel
theorem d_Te_openClause_24 : decode (yB Y_Te_openClause) 24 = .ok (.getfield 13, 3) := by decide +kernel
theorem d_Te_openClause_27 : decode (yB Y_Te_openClause) 27 = .ok (.iconst 1, 1) := by decide +kernel
theorem d_Te_openClause_28 : decode (yB Y_Te_openClause) 28 = .ok (.iastore, 1) := by decide +kernel
theorem d_Te_openClause_29 : decode (yB Y_Te_openClause) 29 = .ok (.aload_n 0, 1) := by decide +kernel
theorem d_Te_openClause_30 : decode (yB Y_Te_openClause) 30 = .ok (.getfield 26, 3) := by decide +kernel
theorem d_Te_openClause_33 : decode (yB Y_Te_openClause) 33 = .ok (.aload_n 0, 1) := by decide +kernel
theorem d_Te_openClause_34 : decode (yB Y_Te_openClause) 34 = .ok (.getfield 13, 3) := by decide +kernel
theorem d_Te_openClause_37 : decode (yB Y_Te_openClause) 37 = .ok (.iconst 0, 1) := by decide +kernel
theorem d_Te_openClause_38 : decode (yB Y_Te_openClause) 38 = .ok (.iastore, 1) := by decide +kernel
theorem d_Te_openClause_39 : decode (yB Y_Te_openClause) 39 = .ok (.aload_n 0, 1) := by decide +kernel
theorem d_Te_openClause_40 : decode (yB Y_Te_openClause) 40 = .ok (.iconst 0, 1) := by decide +kernel
theorem d_Te_openClause_41 : decode (yB Y_Te_openClause) 41 = .ok (.invokevirtual 47, 3) := by decide +kernel
theorem d_Te_openClause_44 : decode (yB Y_Te_openClause) 44 = .ok (.return_, 1) := by decide +kernel
def F_Te_openClause (n : Nat) (E : zE) (S : zS) (a0 : Nat) (x1 : Int32) (M : zH) : Option (zH) :=
  (zgI S M a0 9 6).bind fun v1 =>
  if 12 ≤ v1 then
    some (M)
  else
    (zgR S a0 9 1).bind fun b3 =>
    (zgI S M a0 9 6).bind fun v4 =>
    (zstI S M b3 v4 x1).bind fun m5 =>
    (zgR S a0 9 2).bind fun b6 =>
    (zgI S m5 a0 9 6).bind fun v7 =>
    (zstI S m5 b6 v7 1).bind fun m8 =>
    (zgR S a0 9 3).bind fun b9 =>
    (zgI S m8 a0 9 6).bind fun v10 =>
    (zstI S m8 b9 v10 0).bind fun m11 =>
    (F_Te_mark n E S a0 0 m11).bind fun q12 =>
    some (q12)
theorem K_Te_openClause (n : Nat) (E : zE) (S : zS) (a0 : Nat) (x1 : Int32) (M : zH) (M' : zH)  (h : F_Te_openClause n E S a0 x1 M = some M') : zG E Y_Te_openClause (none, S, M') 0 [(0, .ref a0), (1, .int x1)] [] S M 0 0 := by
  unfold F_Te_openClause at h
  refine zi_aload_n 0 d_Te_openClause_0 rfl ?_
  obtain ⟨v1, ev1, h⟩ := zbind h
  refine zo_getI 4 zkd_9 6 d_Te_openClause_1 ev1 rfl tw_197 rfl ?_
  refine zi_bipush 12 d_Te_openClause_4 rfl ?_
  refine zi_icmp_ge (tgt := 44) d_Te_openClause_6 rfl (fun c2 => ?_) (fun c2 => ?_)
  · rw [if_pos c2] at h
    cases h
    exact zo_ret d_Te_openClause_44 (Nat.le_of_ble_eq_true rfl) (Nat.le_of_ble_eq_true rfl) rfl
  · rw [if_neg c2] at h
    refine zi_aload_n 0 d_Te_openClause_9 rfl ?_
    obtain ⟨b3, eb3, h⟩ := zbind h
    refine zo_getR 13 zkd_9 1 d_Te_openClause_10 eb3 rfl tw_187 rfl ?_
    refine zi_aload_n 0 d_Te_openClause_13 rfl ?_
    obtain ⟨v4, ev4, h⟩ := zbind h
    refine zo_getI 17 zkd_9 6 d_Te_openClause_14 ev4 rfl tw_197 rfl ?_
    refine zi_iload_n 1 d_Te_openClause_17 rfl ?_
    obtain ⟨m5, em5, h⟩ := zbind h
    refine zo_iast 19 d_Te_openClause_18 em5 rfl ?_
    refine zi_aload_n 0 d_Te_openClause_19 rfl ?_
    obtain ⟨b6, eb6, h⟩ := zbind h
    refine zo_getR 23 zkd_9 2 d_Te_openClause_20 eb6 rfl tw_190 rfl ?_
    refine zi_aload_n 0 d_Te_openClause_23 rfl ?_
    obtain ⟨v7, ev7, h⟩ := zbind h
    refine zo_getI 27 zkd_9 6 d_Te_openClause_24 ev7 rfl tw_197 rfl ?_
    refine zi_iconst 1 d_Te_openClause_27 rfl ?_
    obtain ⟨m8, em8, h⟩ := zbind h
    refine zo_iast 29 d_Te_openClause_28 em8 rfl ?_
    refine zi_aload_n 0 d_Te_openClause_29 rfl ?_
    obtain ⟨b9, eb9, h⟩ := zbind h
    refine zo_getR 33 zkd_9 3 d_Te_openClause_30 eb9 rfl tw_192 rfl ?_
    refine zi_aload_n 0 d_Te_openClause_33 rfl ?_
    obtain ⟨v10, ev10, h⟩ := zbind h
    refine zo_getI 37 zkd_9 6 d_Te_openClause_34 ev10 rfl tw_197 rfl ?_
    refine zi_iconst 0 d_Te_openClause_37 rfl ?_
    obtain ⟨m11, em11, h⟩ := zbind h
    refine zo_iast 39 d_Te_openClause_38 em11 rfl ?_
    refine zi_aload_n 0 d_Te_openClause_39 rfl ?_
    refine zi_iconst 0 d_Te_openClause_40 rfl ?_
    obtain ⟨q12, eq12, h⟩ := zbind h
    refine zo_virt (k' := 0) (n' := 0) 44 [.int 0] [] [] zkd_9 (zgI_s ev1).1 (C_Te_mark n E S a0 0 m11 q12 eq12) d_Te_openClause_41 tw_655 tw_652 tw_653 tw_654 tw_7 dd_Te_mark ⟨Nat.le_of_ble_eq_true rfl, Nat.le_of_ble_eq_true rfl, Nat.le_of_ble_eq_true rfl, Nat.le_of_ble_eq_true rfl⟩ (Nat.le_of_ble_eq_true rfl) rfl rfl rfl rfl ?_
    cases h
    exact zo_ret d_Te_openClause_44 (Nat.le_of_ble_eq_true rfl) (Nat.le_of_ble_eq_true rfl) rfl
theorem C_Te_openClause (n : Nat) (E : zE) (S : zS) (a0 : Nat) (x1 : Int32) (M : zH) (M' : zH) (h : F_Te_openClause n E S a0 x1 M = some M') : zC E Y_Te_openClause [.ref a0, .int x1] S M (none, S, M') :=
  zC.of (Or.inl (show plainName "NightColander$Text" = true by decide)) (Nat.le_of_ble_eq_true rfl) (trivial) (K_Te_openClause n E S a0 x1 M M' h)
theorem d_Ps_readClause_0 : decode (yB Y_Ps_readClause) 0 = .ok (.aload_n 0, 1) := by decide +kernel
theorem d_Ps_readClause_1 : decode (yB Y_Ps_readClause) 1 = .ok (.getfield 26, 3) := by decide +kernel
theorem d_Ps_readClause_4 : decode (yB Y_Ps_readClause) 4 = .ok (.aload_n 0, 1) := by decide +kernel
theorem d_Ps_readClause_5 : decode (yB Y_Ps_readClause) 5 = .ok (.getfield 18, 3) := by decide +kernel
theorem d_Ps_readClause_8 : decode (yB Y_Ps_readClause) 8 = .ok (.ifCond .eq 8, 3) := by decide +kernel
theorem d_Ps_readClause_11 : decode (yB Y_Ps_readClause) 11 = .ok (.ldc 56, 2) := by decide +kernel
theorem d_Ps_readClause_13 : decode (yB Y_Ps_readClause) 13 = .ok (.goto 5, 3) := by decide +kernel
theorem d_Ps_readClause_16 : decode (yB Y_Ps_readClause) 16 = .ok (.ldc 58, 2) := by decide +kernel
theorem d_Ps_readClause_18 : decode (yB Y_Ps_readClause) 18 = .ok (.invokevirtual 60, 3) := by decide +kernel
theorem d_Ps_readClause_21 : decode (yB Y_Ps_readClause) 21 = .ok (.istore_n 1, 1) := by decide +kernel
theorem d_Ps_readClause_22 : decode (yB Y_Ps_readClause) 22 = .ok (.iload_n 1, 1) := by decide +kernel
theorem d_Ps_readClause_23 : decode (yB Y_Ps_readClause) 23 = .ok (.iconst (-1), 1) := by decide +kernel
theorem d_Ps_readClause_24 : decode (yB Y_Ps_readClause) 24 = .ok (.if_icmp .ne 5, 3) := by decide +kernel
theorem d_Ps_readClause_27 : decode (yB Y_Ps_readClause) 27 = .ok (.iconst 0, 1) := by decide +kernel
theorem d_Ps_readClause_28 : decode (yB Y_Ps_readClause) 28 = .ok (.ireturn, 1) := by decide +kernel
theorem d_Ps_readClause_29 : decode (yB Y_Ps_readClause) 29 = .ok (.aload_n 0, 1) := by decide +kernel
theorem d_Ps_readClause_30 : decode (yB Y_Ps_readClause) 30 = .ok (.getfield 12, 3) := by decide +kernel
theorem d_Ps_readClause_33 : decode (yB Y_Ps_readClause) 33 = .ok (.iload_n 1, 1) := by decide +kernel
theorem d_Ps_readClause_34 : decode (yB Y_Ps_readClause) 34 = .ok (.invokevirtual 64, 3) := by decide +kernel
theorem d_Ps_readClause_37 : decode (yB Y_Ps_readClause) 37 = .ok (.aload_n 0, 1) := by decide +kernel
theorem d_Ps_readClause_38 : decode (yB Y_Ps_readClause) 38 = .ok (.getfield 26, 3) := by decide +kernel
theorem d_Ps_readClause_41 : decode (yB Y_Ps_readClause) 41 = .ok (.invokevirtual 53, 3) := by decide +kernel
theorem d_Ps_readClause_44 : decode (yB Y_Ps_readClause) 44 = .ok (.aload_n 0, 1) := by decide +kernel
theorem d_Ps_readClause_45 : decode (yB Y_Ps_readClause) 45 = .ok (.getfield 18, 3) := by decide +kernel
theorem d_Ps_readClause_48 : decode (yB Y_Ps_readClause) 48 = .ok (.ifCond .eq 14, 3) := by decide +kernel
theorem d_Ps_readClause_51 : decode (yB Y_Ps_readClause) 51 = .ok (.aload_n 0, 1) := by decide +kernel
theorem d_Ps_readClause_52 : decode (yB Y_Ps_readClause) 52 = .ok (.iload_n 1, 1) := by decide +kernel
theorem d_Ps_readClause_53 : decode (yB Y_Ps_readClause) 53 = .ok (.invokevirtual 68, 3) := by decide +kernel
theorem d_Ps_readClause_56 : decode (yB Y_Ps_readClause) 56 = .ok (.ifCond .eq 14, 3) := by decide +kernel
theorem d_Ps_readClause_59 : decode (yB Y_Ps_readClause) 59 = .ok (.goto 13, 3) := by decide +kernel
theorem d_Ps_readClause_62 : decode (yB Y_Ps_readClause) 62 = .ok (.aload_n 0, 1) := by decide +kernel
theorem d_Ps_readClause_63 : decode (yB Y_Ps_readClause) 63 = .ok (.iload_n 1, 1) := by decide +kernel
theorem d_Ps_readClause_64 : decode (yB Y_Ps_readClause) 64 = .ok (.invokevirtual 72, 3) := by decide +kernel
theorem d_Ps_readClause_67 : decode (yB Y_Ps_readClause) 67 = .ok (.ifCond .ne 5, 3) := by decide +kernel
theorem d_Ps_readClause_70 : decode (yB Y_Ps_readClause) 70 = .ok (.iconst 0, 1) := by decide +kernel
theorem d_Ps_readClause_71 : decode (yB Y_Ps_readClause) 71 = .ok (.ireturn, 1) := by decide +kernel
theorem d_Ps_readClause_72 : decode (yB Y_Ps_readClause) 72 = .ok (.aload_n 0, 1) := by decide +kernel
theorem d_Ps_readClause_73 : decode (yB Y_Ps_readClause) 73 = .ok (.getfield 26, 3) := by decide +kernel
theorem d_Ps_readClause_76 : decode (yB Y_Ps_readClause) 76 = .ok (.ldc 75, 2) := by decide +kernel
theorem d_Ps_readClause_78 : decode (yB Y_Ps_readClause) 78 = .ok (.invokevirtual 77, 3) := by decide +kernel
theorem d_Ps_readClause_81 : decode (yB Y_Ps_readClause) 81 = .ok (.ifCond .eq 20, 3) := by decide +kernel
theorem d_Ps_readClause_84 : decode (yB Y_Ps_readClause) 84 = .ok (.aload_n 0, 1) := by decide +kernel
theorem d_Ps_readClause_85 : decode (yB Y_Ps_readClause) 85 = .ok (.getfield 26, 3) := by decide +kernel
theorem d_Ps_readClause_88 : decode (yB Y_Ps_readClause) 88 = .ok (.invokevirtual 53, 3) := by decide +kernel
theorem d_Ps_readClause_91 : decode (yB Y_Ps_readClause) 91 = .ok (.aload_n 0, 1) := by decide +kernel
theorem d_Ps_readClause_92 : decode (yB Y_Ps_readClause) 92 = .ok (.iconst 0, 1) := by decide +kernel
theorem d_Ps_readClause_93 : decode (yB Y_Ps_readClause) 93 = .ok (.invokevirtual 81, 3) := by decide +kernel
theorem d_Ps_readClause_96 : decode (yB Y_Ps_readClause) 96 = .ok (.ifCond .ne 5, 3) := by decide +kernel
theorem d_Ps_readClause_99 : decode (yB Y_Ps_readClause) 99 = .ok (.iconst 0, 1) := by decide +kernel
theorem d_Ps_readClause_100 : decode (yB Y_Ps_readClause) 100 = .ok (.ireturn, 1) := by decide +kernel
theorem d_Ps_readClause_101 : decode (yB Y_Ps_readClause) 101 = .ok (.aload_n 0, 1) := by decide +kernel
theorem d_Ps_readClause_102 : decode (yB Y_Ps_readClause) 102 = .ok (.getfield 12, 3) := by decide +kernel
theorem d_Ps_readClause_105 : decode (yB Y_Ps_readClause) 105 = .ok (.invokevirtual 84, 3) := by decide +kernel
theorem d_Ps_readClause_108 : decode (yB Y_Ps_readClause) 108 = .ok (.iconst 1, 1) := by decide +kernel
theorem d_Ps_readClause_109 : decode (yB Y_Ps_readClause) 109 = .ok (.ireturn, 1) := by decide +kernel
def F_Ps_readClause_b101 (n : Nat) (E : zE) (S : zS) (a0 : Nat) (M : zH) : Option (Bool × zH) :=
  (zgR S a0 5 0).bind fun b1 =>
  (zck S b1 9).bind fun u2 =>
  (F_Te_closeClause n E S b1 M).bind fun q3 =>
  some (true, q3)
def F_Ps_readClause_b72 (n : Nat) (E : zE) (S : zS) (a0 : Nat) (M : zH) : Option (Bool × zH) :=
  (zgR S a0 5 1).bind fun b4 =>
  (zck S b4 8).bind fun u5 =>
  (F_Ta_atWord n E S b4 9 M).bind fun q6 =>
  if q6.1 = true then
    (F_Ta_advance n E S b4 q6.2).bind fun q8 =>
    (F_Ps_readTest_D n E S 10 (a0, 0, q8)).bind fun q9 =>
    if q9.1 = true then
      F_Ps_readClause_b101 n E S a0 q9.2
    else
      some (false, q9.2)
  else
    F_Ps_readClause_b101 n E S a0 q6.2
def F_Ps_readClause_b18 (n : Nat) (E : zE) (S : zS) (a0 : Nat) (l0 : Nat) (u1 : Nat) (M : zH) : Option (Bool × zH) :=
  (zck S u1 8).bind fun u11 =>
  (F_Ta_indexIn n E S u1 l0 M).bind fun q12 =>
  if q12.1 = (-1) then
    some (false, q12.2)
  else
    (zgR S a0 5 0).bind fun b14 =>
    (zck S b14 9).bind fun u15 =>
    (F_Te_openClause n E S b14 q12.1 q12.2).bind fun q16 =>
    (zgR S a0 5 1).bind fun b17 =>
    (zck S b17 8).bind fun u18 =>
    (F_Ta_advance n E S b17 q16).bind fun q19 =>
    (zgI S q19 a0 5 2).bind fun v20 =>
    if v20 = 0 then
      (F_Ps_readLaw n E S a0 q12.1 q19).bind fun q22 =>
      if q22.1 = true then
        F_Ps_readClause_b72 n E S a0 q22.2
      else
        some (false, q22.2)
    else
      (F_Ps_readOrder n E S a0 q12.1 q19).bind fun q24 =>
      if q24.1 = true then
        F_Ps_readClause_b72 n E S a0 q24.2
      else
        some (false, q24.2)
def F_Ps_readClause (n : Nat) (E : zE) (S : zS) (a0 : Nat) (M : zH) : Option (Bool × zH) :=
  (zgR S a0 5 1).bind fun b26 =>
  (zgI S M a0 5 2).bind fun v27 =>
  if v27 = 0 then
    F_Ps_readClause_b18 n E S a0 1 b26 M
  else
    F_Ps_readClause_b18 n E S a0 0 b26 M
theorem K_Ps_readClause_b101 (n : Nat) (E : zE) (S : zS) (a0 : Nat) (M : zH) (r : Bool) (M' : zH)  (h : F_Ps_readClause_b101 n E S a0 M = some (r, M')) : zG E Y_Ps_readClause (some (.int (bI r)), S, M') 101 [(0, .ref a0)] [] S M 0 0 := by
  unfold F_Ps_readClause_b101 at h
  refine zi_aload_n 0 d_Ps_readClause_101 rfl ?_
  obtain ⟨b1, eb1, h⟩ := zbind h
  refine zo_getR 105 zkd_5 0 d_Ps_readClause_102 eb1 rfl tw_215 rfl ?_
  obtain ⟨u2, eu2, h⟩ := zbind h
  obtain ⟨q3, eq3, h⟩ := zbind h
  refine zo_virt (k' := 0) (n' := 0) 108 [] [] [] zkd_9 (zck_s eu2) (C_Te_closeClause n E S b1 M q3 eq3) d_Ps_readClause_105 tw_825 tw_822 tw_823 tw_824 tw_7 dd_Te_closeClause ⟨Nat.le_of_ble_eq_true rfl, Nat.le_of_ble_eq_true rfl, Nat.le_of_ble_eq_true rfl, Nat.le_of_ble_eq_true rfl⟩ (Nat.le_of_ble_eq_true rfl) rfl rfl rfl rfl ?_
  refine zi_iconst 1 d_Ps_readClause_108 rfl ?_
  cases h
  exact zo_retB d_Ps_readClause_109 (Nat.le_of_ble_eq_true rfl) (Nat.le_of_ble_eq_true rfl) rfl
theorem K_Ps_readClause_b72 (n : Nat) (E : zE) (S : zS) (a0 : Nat) (M : zH) (r : Bool) (M' : zH)  (h : F_Ps_readClause_b72 n E S a0 M = some (r, M')) : zG E Y_Ps_readClause (some (.int (bI r)), S, M') 72 [(0, .ref a0)] [] S M 0 0 := by
  unfold F_Ps_readClause_b72 at h
  refine zi_aload_n 0 d_Ps_readClause_72 rfl ?_
  obtain ⟨b4, eb4, h⟩ := zbind h
  refine zo_getR 76 zkd_5 1 d_Ps_readClause_73 eb4 rfl tw_217 rfl ?_
  refine zi_ldcS d_Ps_readClause_76 (zlit_9 E) ?_
  obtain ⟨u5, eu5, h⟩ := zbind h
  obtain ⟨q6, eq6, h⟩ := zbind h
  refine zo_virt (k' := 0) (n' := 0) 81 [.ref (eK E 9)] [] [.int (bI q6.1)] zkd_8 (zck_s eu5) (C_Ta_atWord n E S b4 9 M q6.1 q6.2 eq6) d_Ps_readClause_78 tw_782 tw_779 tw_780 tw_781 tw_5 dd_Ta_atWord ⟨Nat.le_of_ble_eq_true rfl, Nat.le_of_ble_eq_true rfl, Nat.le_of_ble_eq_true rfl, Nat.le_of_ble_eq_true rfl⟩ (Nat.le_of_ble_eq_true rfl) rfl rfl rfl rfl ?_
  refine zo_ifeqB d_Ps_readClause_81 rfl 84 rfl (fun c7 => ?_) (fun c7 => ?_)
  · rw [if_neg c7] at h
    refine zi_lo [(0, .ref a0)] [0] rfl ?_
    exact K_Ps_readClause_b101 n E S a0 q6.2 r M'  h
  · rw [if_pos c7] at h
    refine zi_aload_n 0 d_Ps_readClause_84 rfl ?_
    refine zo_getR 88 zkd_5 1 d_Ps_readClause_85 eb4 rfl tw_217 rfl ?_
    obtain ⟨q8, eq8, h⟩ := zbind h
    refine zo_virt (k' := 0) (n' := 0) 91 [] [] [] zkd_8 (zck_s eu5) (C_Ta_advance n E S b4 q6.2 q8 eq8) d_Ps_readClause_88 tw_577 tw_657 tw_575 tw_576 tw_5 dd_Ta_advance ⟨Nat.le_of_ble_eq_true rfl, Nat.le_of_ble_eq_true rfl, Nat.le_of_ble_eq_true rfl, Nat.le_of_ble_eq_true rfl⟩ (Nat.le_of_ble_eq_true rfl) rfl rfl rfl rfl ?_
    refine zi_aload_n 0 d_Ps_readClause_91 rfl ?_
    refine zi_iconst 0 d_Ps_readClause_92 rfl ?_
    obtain ⟨q9, eq9, h⟩ := zbind h
    refine zo_virt (k' := 0) (n' := 0) 96 [.int 0] [] [.int (bI q9.1)] zkd_5 (zgR_s eb4).1 (C_Ps_readTest_D n E S 10 a0 0 q8 q9.1 q9.2 eq9) d_Ps_readClause_93 tw_796 tw_793 tw_795 ts_16 tw_6 dd_Ps_readTest ⟨Nat.le_of_ble_eq_true rfl, Nat.le_of_ble_eq_true rfl, Nat.le_of_ble_eq_true rfl, Nat.le_of_ble_eq_true rfl⟩ (Nat.le_of_ble_eq_true rfl) rfl rfl rfl rfl ?_
    refine zo_ifneB d_Ps_readClause_96 rfl 99 rfl (fun c10 => ?_) (fun c10 => ?_)
    · rw [if_pos c10] at h
      refine zi_lo [(0, .ref a0)] [0] rfl ?_
      exact K_Ps_readClause_b101 n E S a0 q9.2 r M'  h
    · rw [if_neg c10] at h
      refine zi_iconst 0 d_Ps_readClause_99 rfl ?_
      cases h
      exact zo_retB d_Ps_readClause_100 (Nat.le_of_ble_eq_true rfl) (Nat.le_of_ble_eq_true rfl) rfl
theorem K_Ps_readClause_b18 (n : Nat) (E : zE) (S : zS) (a0 : Nat) (l0 : Nat) (u1 : Nat) (M : zH) (r : Bool) (M' : zH)  (h : F_Ps_readClause_b18 n E S a0 l0 u1 M = some (r, M')) : zG E Y_Ps_readClause (some (.int (bI r)), S, M') 18 [(0, .ref a0)] [.ref (eK E l0), .ref u1] S M 0 0 := by
  unfold F_Ps_readClause_b18 at h
  obtain ⟨u11, eu11, h⟩ := zbind h
  obtain ⟨q12, eq12, h⟩ := zbind h
  refine zo_virt (k' := 0) (n' := 0) 21 [.ref (eK E l0)] [] [.int q12.1] zkd_8 (zck_s eu11) (C_Ta_indexIn n E S u1 l0 M q12.1 q12.2 eq12) d_Ps_readClause_18 tw_595 tw_592 tw_593 tw_594 tw_5 dd_Ta_indexIn ⟨Nat.le_of_ble_eq_true rfl, Nat.le_of_ble_eq_true rfl, Nat.le_of_ble_eq_true rfl, Nat.le_of_ble_eq_true rfl⟩ (Nat.le_of_ble_eq_true rfl) rfl rfl rfl rfl ?_
  refine zi_istore_n [(1, .int q12.1), (0, .ref a0)] d_Ps_readClause_21 (by decide) rfl ?_
  refine zi_iload_n 0 d_Ps_readClause_22 rfl ?_
  refine zi_iconst (-1) d_Ps_readClause_23 rfl ?_
  refine zi_icmp_ne (tgt := 29) d_Ps_readClause_24 rfl (fun c13 => ?_) (fun c13 => ?_)
  · rw [if_neg c13] at h
    refine zi_aload_n 1 d_Ps_readClause_29 rfl ?_
    obtain ⟨b14, eb14, h⟩ := zbind h
    refine zo_getR 33 zkd_5 0 d_Ps_readClause_30 eb14 rfl tw_215 rfl ?_
    refine zi_iload_n 0 d_Ps_readClause_33 rfl ?_
    obtain ⟨u15, eu15, h⟩ := zbind h
    obtain ⟨q16, eq16, h⟩ := zbind h
    refine zo_virt (k' := 0) (n' := 0) 37 [.int q12.1] [] [] zkd_9 (zck_s eu15) (C_Te_openClause n E S b14 q12.1 q12.2 q16 eq16) d_Ps_readClause_34 tw_651 tw_648 tw_649 tw_650 tw_7 dd_Te_openClause ⟨Nat.le_of_ble_eq_true rfl, Nat.le_of_ble_eq_true rfl, Nat.le_of_ble_eq_true rfl, Nat.le_of_ble_eq_true rfl⟩ (Nat.le_of_ble_eq_true rfl) rfl rfl rfl rfl ?_
    refine zi_aload_n 1 d_Ps_readClause_37 rfl ?_
    obtain ⟨b17, eb17, h⟩ := zbind h
    refine zo_getR 41 zkd_5 1 d_Ps_readClause_38 eb17 rfl tw_217 rfl ?_
    obtain ⟨u18, eu18, h⟩ := zbind h
    obtain ⟨q19, eq19, h⟩ := zbind h
    refine zo_virt (k' := 0) (n' := 0) 44 [] [] [] zkd_8 (zck_s eu18) (C_Ta_advance n E S b17 q16 q19 eq19) d_Ps_readClause_41 tw_577 tw_657 tw_575 tw_576 tw_5 dd_Ta_advance ⟨Nat.le_of_ble_eq_true rfl, Nat.le_of_ble_eq_true rfl, Nat.le_of_ble_eq_true rfl, Nat.le_of_ble_eq_true rfl⟩ (Nat.le_of_ble_eq_true rfl) rfl rfl rfl rfl ?_
    refine zi_aload_n 1 d_Ps_readClause_44 rfl ?_
    obtain ⟨v20, ev20, h⟩ := zbind h
    refine zo_getI 48 zkd_5 2 d_Ps_readClause_45 ev20 rfl tw_218 rfl ?_
    refine zi_if_eq (tgt := 62) d_Ps_readClause_48 rfl (fun c21 => ?_) (fun c21 => ?_)
    · rw [if_pos c21] at h
      refine zi_aload_n 1 d_Ps_readClause_62 rfl ?_
      refine zi_iload_n 0 d_Ps_readClause_63 rfl ?_
      obtain ⟨q22, eq22, h⟩ := zbind h
      refine zo_virt (k' := 0) (n' := 0) 67 [.int q12.1] [] [.int (bI q22.1)] zkd_5 (zgR_s eb14).1 (C_Ps_readLaw n E S a0 q12.1 q19 q22.1 q22.2 eq22) d_Ps_readClause_64 tw_791 tw_788 tw_790 ts_15 tw_6 dd_Ps_readLaw ⟨Nat.le_of_ble_eq_true rfl, Nat.le_of_ble_eq_true rfl, Nat.le_of_ble_eq_true rfl, Nat.le_of_ble_eq_true rfl⟩ (Nat.le_of_ble_eq_true rfl) rfl rfl rfl rfl ?_
      refine zo_ifneB d_Ps_readClause_67 rfl 70 rfl (fun c23 => ?_) (fun c23 => ?_)
      · rw [if_pos c23] at h
        refine zi_lo [(0, .ref a0)] [1] rfl ?_
        exact K_Ps_readClause_b72 n E S a0 q22.2 r M'  h
      · rw [if_neg c23] at h
        refine zi_iconst 0 d_Ps_readClause_70 rfl ?_
        cases h
        exact zo_retB d_Ps_readClause_71 (Nat.le_of_ble_eq_true rfl) (Nat.le_of_ble_eq_true rfl) rfl
    · rw [if_neg c21] at h
      refine zi_aload_n 1 d_Ps_readClause_51 rfl ?_
      refine zi_iload_n 0 d_Ps_readClause_52 rfl ?_
      obtain ⟨q24, eq24, h⟩ := zbind h
      refine zo_virt (k' := 0) (n' := 0) 56 [.int q12.1] [] [.int (bI q24.1)] zkd_5 (zgR_s eb14).1 (C_Ps_readOrder n E S a0 q12.1 q19 q24.1 q24.2 eq24) d_Ps_readClause_53 tw_661 tw_658 tw_660 ts_8 tw_6 dd_Ps_readOrder ⟨Nat.le_of_ble_eq_true rfl, Nat.le_of_ble_eq_true rfl, Nat.le_of_ble_eq_true rfl, Nat.le_of_ble_eq_true rfl⟩ (Nat.le_of_ble_eq_true rfl) rfl rfl rfl rfl ?_
      refine zo_ifeqB d_Ps_readClause_56 rfl 59 rfl (fun c25 => ?_) (fun c25 => ?_)
      · rw [if_neg c25] at h
        refine zi_iconst 0 d_Ps_readClause_70 rfl ?_
        cases h
        exact zo_retB d_Ps_readClause_71 (Nat.le_of_ble_eq_true rfl) (Nat.le_of_ble_eq_true rfl) rfl
      · rw [if_pos c25] at h
        refine zi_goto (tgt := 72) d_Ps_readClause_59 rfl ?_
        refine zi_lo [(0, .ref a0)] [1] rfl ?_
        exact K_Ps_readClause_b72 n E S a0 q24.2 r M'  h
  · rw [if_pos c13] at h
    refine zi_iconst 0 d_Ps_readClause_27 rfl ?_
    cases h
    exact zo_retB d_Ps_readClause_28 (Nat.le_of_ble_eq_true rfl) (Nat.le_of_ble_eq_true rfl) rfl
theorem K_Ps_readClause (n : Nat) (E : zE) (S : zS) (a0 : Nat) (M : zH) (r : Bool) (M' : zH)  (h : F_Ps_readClause n E S a0 M = some (r, M')) : zG E Y_Ps_readClause (some (.int (bI r)), S, M') 0 [(0, .ref a0)] [] S M 0 0 := by
  unfold F_Ps_readClause at h
  refine zi_aload_n 0 d_Ps_readClause_0 rfl ?_
  obtain ⟨b26, eb26, h⟩ := zbind h
  refine zo_getR 4 zkd_5 1 d_Ps_readClause_1 eb26 rfl tw_217 rfl ?_
  refine zi_aload_n 0 d_Ps_readClause_4 rfl ?_
  obtain ⟨v27, ev27, h⟩ := zbind h
  refine zo_getI 8 zkd_5 2 d_Ps_readClause_5 ev27 rfl tw_218 rfl ?_
  refine zi_if_eq (tgt := 16) d_Ps_readClause_8 rfl (fun c28 => ?_) (fun c28 => ?_)
  · rw [if_pos c28] at h
    refine zi_ldcS d_Ps_readClause_16 (zlit_1 E) ?_
    refine zi_lo [(0, .ref a0)] [0] rfl ?_
    exact K_Ps_readClause_b18 n E S a0 1 b26 M r M'  h
  · rw [if_neg c28] at h
    refine zi_ldcS d_Ps_readClause_11 (zlit_0 E) ?_
    refine zi_goto (tgt := 18) d_Ps_readClause_13 rfl ?_
    refine zi_lo [(0, .ref a0)] [0] rfl ?_
    exact K_Ps_readClause_b18 n E S a0 0 b26 M r M'  h
theorem C_Ps_readClause (n : Nat) (E : zE) (S : zS) (a0 : Nat) (M : zH) (r : Bool) (M' : zH) (h : F_Ps_readClause n E S a0 M = some (r, M')) : zC E Y_Ps_readClause [.ref a0] S M (some (.int (bI r)), S, M') :=
  zC.of (Or.inl (show plainName "NightColander$Parser" = true by decide)) (Nat.le_of_ble_eq_true rfl) (bI_nar r) (K_Ps_readClause n E S a0 M r M' h)
theorem d_Ta_atEnd_0 : decode (yB Y_Ta_atEnd) 0 = .ok (.aload_n 0, 1) := by decide +kernel
theorem d_Ta_atEnd_1 : decode (yB Y_Ta_atEnd) 1 = .ok (.getfield 19, 3) := by decide +kernel
theorem d_Ta_atEnd_4 : decode (yB Y_Ta_atEnd) 4 = .ok (.ifCond .ne 7, 3) := by decide +kernel
theorem d_Ta_atEnd_7 : decode (yB Y_Ta_atEnd) 7 = .ok (.iconst 1, 1) := by decide +kernel
theorem d_Ta_atEnd_8 : decode (yB Y_Ta_atEnd) 8 = .ok (.goto 4, 3) := by decide +kernel
theorem d_Ta_atEnd_11 : decode (yB Y_Ta_atEnd) 11 = .ok (.iconst 0, 1) := by decide +kernel
theorem d_Ta_atEnd_12 : decode (yB Y_Ta_atEnd) 12 = .ok (.ireturn, 1) := by decide +kernel
def F_Ta_atEnd (n : Nat) (E : zE) (S : zS) (a0 : Nat) (M : zH) : Option (Bool × zH) :=
  (zgI S M a0 8 2).bind fun v1 =>
  if v1 = 0 then
    some (true, M)
  else
    some (false, M)
theorem K_Ta_atEnd (n : Nat) (E : zE) (S : zS) (a0 : Nat) (M : zH) (r : Bool) (M' : zH)  (h : F_Ta_atEnd n E S a0 M = some (r, M')) : zG E Y_Ta_atEnd (some (.int (bI r)), S, M') 0 [(0, .ref a0)] [] S M 0 0 := by
  unfold F_Ta_atEnd at h
  refine zi_aload_n 0 d_Ta_atEnd_0 rfl ?_
  obtain ⟨v1, ev1, h⟩ := zbind h
  refine zo_getI 4 zkd_8 2 d_Ta_atEnd_1 ev1 rfl tw_155 rfl ?_
  refine zi_if_ne (tgt := 11) d_Ta_atEnd_4 rfl (fun c2 => ?_) (fun c2 => ?_)
  · rw [if_neg c2] at h
    refine zi_iconst 0 d_Ta_atEnd_11 rfl ?_
    cases h
    exact zo_retB d_Ta_atEnd_12 (Nat.le_of_ble_eq_true rfl) (Nat.le_of_ble_eq_true rfl) rfl
  · rw [if_pos c2] at h
    refine zi_iconst 1 d_Ta_atEnd_7 rfl ?_
    refine zi_goto (tgt := 12) d_Ta_atEnd_8 rfl ?_
    cases h
    exact zo_retB d_Ta_atEnd_12 (Nat.le_of_ble_eq_true rfl) (Nat.le_of_ble_eq_true rfl) rfl
theorem C_Ta_atEnd (n : Nat) (E : zE) (S : zS) (a0 : Nat) (M : zH) (r : Bool) (M' : zH) (h : F_Ta_atEnd n E S a0 M = some (r, M')) : zC E Y_Ta_atEnd [.ref a0] S M (some (.int (bI r)), S, M') :=
  zC.of (Or.inl (show plainName "NightColander$Tape" = true by decide)) (Nat.le_of_ble_eq_true rfl) (bI_nar r) (K_Ta_atEnd n E S a0 M r M' h)
theorem d_Ta_place_0 : decode (yB Y_Ta_place) 0 = .ok (.aload_n 0, 1) := by decide +kernel
theorem d_Ta_place_1 : decode (yB Y_Ta_place) 1 = .ok (.getfield 22, 3) := by decide +kernel
theorem d_Ta_place_4 : decode (yB Y_Ta_place) 4 = .ok (.ireturn, 1) := by decide +kernel
def F_Ta_place (n : Nat) (E : zE) (S : zS) (a0 : Nat) (M : zH) : Option (Int32 × zH) :=
  (zgI S M a0 8 3).bind fun v1 =>
  some (v1, M)
theorem K_Ta_place (n : Nat) (E : zE) (S : zS) (a0 : Nat) (M : zH) (r : Int32) (M' : zH)  (h : F_Ta_place n E S a0 M = some (r, M')) : zG E Y_Ta_place (some (.int r), S, M') 0 [(0, .ref a0)] [] S M 0 0 := by
  unfold F_Ta_place at h
  refine zi_aload_n 0 d_Ta_place_0 rfl ?_
  obtain ⟨v1, ev1, h⟩ := zbind h
  refine zo_getI 4 zkd_8 3 d_Ta_place_1 ev1 rfl tw_156 rfl ?_
  cases h
  exact zo_ret d_Ta_place_4 (Nat.le_of_ble_eq_true rfl) (Nat.le_of_ble_eq_true rfl) rfl
theorem C_Ta_place (n : Nat) (E : zE) (S : zS) (a0 : Nat) (M : zH) (r : Int32) (M' : zH) (h : F_Ta_place n E S a0 M = some (r, M')) : zC E Y_Ta_place [.ref a0] S M (some (.int r), S, M') :=
  zC.of (Or.inl (show plainName "NightColander$Tape" = true by decide)) (Nat.le_of_ble_eq_true rfl) (trivial) (K_Ta_place n E S a0 M r M' h)
theorem d_Ta_rewind_0 : decode (yB Y_Ta_rewind) 0 = .ok (.aload_n 0, 1) := by decide +kernel
theorem d_Ta_rewind_1 : decode (yB Y_Ta_rewind) 1 = .ok (.iconst 0, 1) := by decide +kernel
theorem d_Ta_rewind_2 : decode (yB Y_Ta_rewind) 2 = .ok (.putfield 25, 3) := by decide +kernel
theorem d_Ta_rewind_5 : decode (yB Y_Ta_rewind) 5 = .ok (.aload_n 0, 1) := by decide +kernel
theorem d_Ta_rewind_6 : decode (yB Y_Ta_rewind) 6 = .ok (.invokevirtual 31, 3) := by decide +kernel
theorem d_Ta_rewind_9 : decode (yB Y_Ta_rewind) 9 = .ok (.return_, 1) := by decide +kernel
def F_Ta_rewind (n : Nat) (E : zE) (S : zS) (a0 : Nat) (M : zH) : Option (zH) :=
  (zpI S M a0 8 4 0).bind fun m1 =>
  (zck S a0 8).bind fun u2 =>
  (F_Ta_advance n E S a0 m1).bind fun q3 =>
  some (q3)
theorem K_Ta_rewind (n : Nat) (E : zE) (S : zS) (a0 : Nat) (M : zH) (M' : zH)  (h : F_Ta_rewind n E S a0 M = some M') : zG E Y_Ta_rewind (none, S, M') 0 [(0, .ref a0)] [] S M 0 0 := by
  unfold F_Ta_rewind at h
  refine zi_aload_n 0 d_Ta_rewind_0 rfl ?_
  refine zi_iconst 0 d_Ta_rewind_1 rfl ?_
  obtain ⟨m1, em1, h⟩ := zbind h
  refine zo_putI 5 zkd_8 4 d_Ta_rewind_2 em1 rfl rfl rfl tw_157 rfl ?_
  refine zi_aload_n 0 d_Ta_rewind_5 rfl ?_
  obtain ⟨u2, eu2, h⟩ := zbind h
  obtain ⟨q3, eq3, h⟩ := zbind h
  refine zo_virt (k' := 0) (n' := 0) 9 [] [] [] zkd_8 (zck_s eu2) (C_Ta_advance n E S a0 m1 q3 eq3) d_Ta_rewind_6 tw_577 tw_574 tw_575 tw_576 tw_5 dd_Ta_advance ⟨Nat.le_of_ble_eq_true rfl, Nat.le_of_ble_eq_true rfl, Nat.le_of_ble_eq_true rfl, Nat.le_of_ble_eq_true rfl⟩ (Nat.le_of_ble_eq_true rfl) rfl rfl rfl rfl ?_
  cases h
  exact zo_ret d_Ta_rewind_9 (Nat.le_of_ble_eq_true rfl) (Nat.le_of_ble_eq_true rfl) rfl
theorem C_Ta_rewind (n : Nat) (E : zE) (S : zS) (a0 : Nat) (M : zH) (M' : zH) (h : F_Ta_rewind n E S a0 M = some M') : zC E Y_Ta_rewind [.ref a0] S M (none, S, M') :=
  zC.of (Or.inl (show plainName "NightColander$Tape" = true by decide)) (Nat.le_of_ble_eq_true rfl) (trivial) (K_Ta_rewind n E S a0 M M' h)
theorem d_Te_clear_0 : decode (yB Y_Te_clear) 0 = .ok (.aload_n 0, 1) := by decide +kernel
theorem d_Te_clear_1 : decode (yB Y_Te_clear) 1 = .ok (.iconst 0, 1) := by decide +kernel
theorem d_Te_clear_2 : decode (yB Y_Te_clear) 2 = .ok (.putfield 7, 3) := by decide +kernel
theorem d_Te_clear_5 : decode (yB Y_Te_clear) 5 = .ok (.aload_n 0, 1) := by decide +kernel
theorem d_Te_clear_6 : decode (yB Y_Te_clear) 6 = .ok (.iconst 0, 1) := by decide +kernel
theorem d_Te_clear_7 : decode (yB Y_Te_clear) 7 = .ok (.putfield 13, 3) := by decide +kernel
theorem d_Te_clear_10 : decode (yB Y_Te_clear) 10 = .ok (.return_, 1) := by decide +kernel
def F_Te_clear (n : Nat) (E : zE) (S : zS) (a0 : Nat) (M : zH) : Option (zH) :=
  (zpI S M a0 9 5 0).bind fun m1 =>
  (zpI S m1 a0 9 6 0).bind fun m2 =>
  some (m2)
theorem K_Te_clear (n : Nat) (E : zE) (S : zS) (a0 : Nat) (M : zH) (M' : zH)  (h : F_Te_clear n E S a0 M = some M') : zG E Y_Te_clear (none, S, M') 0 [(0, .ref a0)] [] S M 0 0 := by
  unfold F_Te_clear at h
  refine zi_aload_n 0 d_Te_clear_0 rfl ?_
  refine zi_iconst 0 d_Te_clear_1 rfl ?_
  obtain ⟨m1, em1, h⟩ := zbind h
  refine zo_putI 5 zkd_9 5 d_Te_clear_2 em1 rfl rfl rfl tw_195 rfl ?_
  refine zi_aload_n 0 d_Te_clear_5 rfl ?_
  refine zi_iconst 0 d_Te_clear_6 rfl ?_
  obtain ⟨m2, em2, h⟩ := zbind h
  refine zo_putI 10 zkd_9 6 d_Te_clear_7 em2 rfl rfl rfl tw_197 rfl ?_
  cases h
  exact zo_ret d_Te_clear_10 (Nat.le_of_ble_eq_true rfl) (Nat.le_of_ble_eq_true rfl) rfl
theorem C_Te_clear (n : Nat) (E : zE) (S : zS) (a0 : Nat) (M : zH) (M' : zH) (h : F_Te_clear n E S a0 M = some M') : zC E Y_Te_clear [.ref a0] S M (none, S, M') :=
  zC.of (Or.inl (show plainName "NightColander$Text" = true by decide)) (Nat.le_of_ble_eq_true rfl) (trivial) (K_Te_clear n E S a0 M M' h)
theorem d_Ps_parse_0 : decode (yB Y_Ps_parse) 0 = .ok (.aload_n 0, 1) := by decide +kernel
theorem d_Ps_parse_1 : decode (yB Y_Ps_parse) 1 = .ok (.iload_n 1, 1) := by decide +kernel
theorem d_Ps_parse_2 : decode (yB Y_Ps_parse) 2 = .ok (.putfield 18, 3) := by decide +kernel
theorem d_Ps_parse_5 : decode (yB Y_Ps_parse) 5 = .ok (.aload_n 0, 1) := by decide +kernel
theorem d_Ps_parse_6 : decode (yB Y_Ps_parse) 6 = .ok (.iconst 0, 1) := by decide +kernel
theorem d_Ps_parse_7 : decode (yB Y_Ps_parse) 7 = .ok (.putfield 22, 3) := by decide +kernel
theorem d_Ps_parse_10 : decode (yB Y_Ps_parse) 10 = .ok (.aload_n 0, 1) := by decide +kernel
theorem d_Ps_parse_11 : decode (yB Y_Ps_parse) 11 = .ok (.getfield 12, 3) := by decide +kernel
theorem d_Ps_parse_14 : decode (yB Y_Ps_parse) 14 = .ok (.invokevirtual 30, 3) := by decide +kernel
theorem d_Ps_parse_17 : decode (yB Y_Ps_parse) 17 = .ok (.aload_n 0, 1) := by decide +kernel
theorem d_Ps_parse_18 : decode (yB Y_Ps_parse) 18 = .ok (.getfield 26, 3) := by decide +kernel
theorem d_Ps_parse_21 : decode (yB Y_Ps_parse) 21 = .ok (.invokevirtual 33, 3) := by decide +kernel
theorem d_Ps_parse_24 : decode (yB Y_Ps_parse) 24 = .ok (.iconst 0, 1) := by decide +kernel
theorem d_Ps_parse_25 : decode (yB Y_Ps_parse) 25 = .ok (.istore_n 2, 1) := by decide +kernel
theorem d_Ps_parse_26 : decode (yB Y_Ps_parse) 26 = .ok (.iload_n 2, 1) := by decide +kernel
theorem d_Ps_parse_27 : decode (yB Y_Ps_parse) 27 = .ok (.bipush 12, 2) := by decide +kernel
theorem d_Ps_parse_29 : decode (yB Y_Ps_parse) 29 = .ok (.if_icmp .ge 63, 3) := by decide +kernel
theorem d_Ps_parse_32 : decode (yB Y_Ps_parse) 32 = .ok (.aload_n 0, 1) := by decide +kernel
theorem d_Ps_parse_33 : decode (yB Y_Ps_parse) 33 = .ok (.invokevirtual 38, 3) := by decide +kernel
theorem d_Ps_parse_36 : decode (yB Y_Ps_parse) 36 = .ok (.ifCond .ne 11, 3) := by decide +kernel
theorem d_Ps_parse_39 : decode (yB Y_Ps_parse) 39 = .ok (.aload_n 0, 1) := by decide +kernel
theorem d_Ps_parse_40 : decode (yB Y_Ps_parse) 40 = .ok (.getfield 26, 3) := by decide +kernel
theorem d_Ps_parse_43 : decode (yB Y_Ps_parse) 43 = .ok (.invokevirtual 42, 3) := by decide +kernel
theorem d_Ps_parse_46 : decode (yB Y_Ps_parse) 46 = .ok (.ireturn, 1) := by decide +kernel
theorem d_Ps_parse_47 : decode (yB Y_Ps_parse) 47 = .ok (.aload_n 0, 1) := by decide +kernel
theorem d_Ps_parse_48 : decode (yB Y_Ps_parse) 48 = .ok (.getfield 26, 3) := by decide +kernel
theorem d_Ps_parse_51 : decode (yB Y_Ps_parse) 51 = .ok (.invokevirtual 46, 3) := by decide +kernel
theorem d_Ps_parse_54 : decode (yB Y_Ps_parse) 54 = .ok (.ifCond .eq 5, 3) := by decide +kernel
theorem d_Ps_parse_57 : decode (yB Y_Ps_parse) 57 = .ok (.iconst (-1), 1) := by decide +kernel
theorem d_Ps_parse_58 : decode (yB Y_Ps_parse) 58 = .ok (.ireturn, 1) := by decide +kernel
theorem d_Ps_parse_59 : decode (yB Y_Ps_parse) 59 = .ok (.aload_n 0, 1) := by decide +kernel
theorem d_Ps_parse_60 : decode (yB Y_Ps_parse) 60 = .ok (.getfield 26, 3) := by decide +kernel
theorem d_Ps_parse_63 : decode (yB Y_Ps_parse) 63 = .ok (.bipush 59, 2) := by decide +kernel
theorem d_Ps_parse_65 : decode (yB Y_Ps_parse) 65 = .ok (.invokevirtual 49, 3) := by decide +kernel
theorem d_Ps_parse_68 : decode (yB Y_Ps_parse) 68 = .ok (.ifCond .ne 11, 3) := by decide +kernel
theorem d_Ps_parse_71 : decode (yB Y_Ps_parse) 71 = .ok (.aload_n 0, 1) := by decide +kernel
theorem d_Ps_parse_72 : decode (yB Y_Ps_parse) 72 = .ok (.getfield 26, 3) := by decide +kernel
theorem d_Ps_parse_75 : decode (yB Y_Ps_parse) 75 = .ok (.invokevirtual 42, 3) := by decide +kernel
theorem d_Ps_parse_78 : decode (yB Y_Ps_parse) 78 = .ok (.ireturn, 1) := by decide +kernel
theorem d_Ps_parse_79 : decode (yB Y_Ps_parse) 79 = .ok (.aload_n 0, 1) := by decide +kernel
theorem d_Ps_parse_80 : decode (yB Y_Ps_parse) 80 = .ok (.getfield 26, 3) := by decide +kernel
theorem d_Ps_parse_83 : decode (yB Y_Ps_parse) 83 = .ok (.invokevirtual 53, 3) := by decide +kernel
theorem d_Ps_parse_86 : decode (yB Y_Ps_parse) 86 = .ok (.iinc 2 1, 3) := by decide +kernel
theorem d_Ps_parse_89 : decode (yB Y_Ps_parse) 89 = .ok (.goto (-63), 3) := by decide +kernel
theorem d_Ps_parse_92 : decode (yB Y_Ps_parse) 92 = .ok (.aload_n 0, 1) := by decide +kernel
theorem d_Ps_parse_93 : decode (yB Y_Ps_parse) 93 = .ok (.getfield 26, 3) := by decide +kernel
theorem d_Ps_parse_96 : decode (yB Y_Ps_parse) 96 = .ok (.invokevirtual 42, 3) := by decide +kernel
theorem d_Ps_parse_99 : decode (yB Y_Ps_parse) 99 = .ok (.ireturn, 1) := by decide +kernel
def F_Ps_parse_L26 (n : Nat) (E : zE) (S : zS) (r26 : Nat × Int32 × zH → Option (Int32 × zH)) (a0 : Nat) (x2 : Int32) (M : zH) : Option (Int32 × zH) :=
  if 12 ≤ x2 then
    (zgR S a0 5 1).bind fun b2 =>
    (zck S b2 8).bind fun u3 =>
    (F_Ta_place n E S b2 M).bind fun q4 =>
    some (q4.1, q4.2)
  else
    (zck S a0 5).bind fun u5 =>
    (F_Ps_readClause n E S a0 M).bind fun q6 =>
    if q6.1 = true then
      (zgR S a0 5 1).bind fun b8 =>
      (zck S b8 8).bind fun u9 =>
      (F_Ta_atEnd n E S b8 q6.2).bind fun q10 =>
      if q10.1 = true then
        some ((-1), q10.2)
      else
        (F_Ta_atSign n E S b8 59 q10.2).bind fun q12 =>
        if q12.1 = true then
          (F_Ta_advance n E S b8 q12.2).bind fun q14 =>
          r26 (a0, x2 + 1, q14)
        else
          (F_Ta_place n E S b8 q12.2).bind fun q15 =>
          some (q15.1, q15.2)
    else
      (zgR S a0 5 1).bind fun b16 =>
      (zck S b16 8).bind fun u17 =>
      (F_Ta_place n E S b16 q6.2).bind fun q18 =>
      some (q18.1, q18.2)
def F_Ps_parse_b26 (n : Nat) (E : zE) (S : zS) : Nat × Int32 × zH → Option (Int32 × zH) := zfix (fun r26 s => F_Ps_parse_L26 n E S r26 s.1 s.2.1 s.2.2) n
def F_Ps_parse (n : Nat) (E : zE) (S : zS) (a0 : Nat) (x1 : Int32) (M : zH) : Option (Int32 × zH) :=
  (zpZ S M a0 5 2 x1).bind fun m19 =>
  (zpI S m19 a0 5 3 0).bind fun m20 =>
  (zgR S a0 5 0).bind fun b21 =>
  (zck S b21 9).bind fun u22 =>
  (F_Te_clear n E S b21 m20).bind fun q23 =>
  (zgR S a0 5 1).bind fun b24 =>
  (zck S b24 8).bind fun u25 =>
  (F_Ta_rewind n E S b24 q23).bind fun q26 =>
  F_Ps_parse_b26 n E S (a0, 0, q26)
theorem K_Ps_parse_L26 (n : Nat) (E : zE) (S : zS) (r26 : Nat × Int32 × zH → Option (Int32 × zH)) (a0 : Nat) (x2 : Int32) (M : zH) (r : Int32) (M' : zH) (hr26 : ∀ (a0 : Nat) (x2 : Int32) (M : zH), r26 (a0, x2, M) = some (r, M') → zG E Y_Ps_parse (some (.int r), S, M') 26 [(0, .ref a0), (2, .int x2)] [] S M 0 0) (h : F_Ps_parse_L26 n E S r26 a0 x2 M = some (r, M')) : zG E Y_Ps_parse (some (.int r), S, M') 26 [(0, .ref a0), (2, .int x2)] [] S M 0 0 := by
  unfold F_Ps_parse_L26 at h
  refine zi_iload_n 1 d_Ps_parse_26 rfl ?_
  refine zi_bipush 12 d_Ps_parse_27 rfl ?_
  refine zi_icmp_ge (tgt := 92) d_Ps_parse_29 rfl (fun c1 => ?_) (fun c1 => ?_)
  · rw [if_pos c1] at h
    refine zi_aload_n 0 d_Ps_parse_92 rfl ?_
    obtain ⟨b2, eb2, h⟩ := zbind h
    refine zo_getR 96 zkd_5 1 d_Ps_parse_93 eb2 rfl tw_217 rfl ?_
    obtain ⟨u3, eu3, h⟩ := zbind h
    obtain ⟨q4, eq4, h⟩ := zbind h
    refine zo_virt (k' := 0) (n' := 0) 99 [] [] [.int q4.1] zkd_8 (zck_s eu3) (C_Ta_place n E S b2 M q4.1 q4.2 eq4) d_Ps_parse_96 tw_829 tw_826 tw_827 tw_828 tw_5 dd_Ta_place ⟨Nat.le_of_ble_eq_true rfl, Nat.le_of_ble_eq_true rfl, Nat.le_of_ble_eq_true rfl, Nat.le_of_ble_eq_true rfl⟩ (Nat.le_of_ble_eq_true rfl) rfl rfl rfl rfl ?_
    cases h
    exact zo_ret d_Ps_parse_99 (Nat.le_of_ble_eq_true rfl) (Nat.le_of_ble_eq_true rfl) rfl
  · rw [if_neg c1] at h
    refine zi_aload_n 0 d_Ps_parse_32 rfl ?_
    obtain ⟨u5, eu5, h⟩ := zbind h
    obtain ⟨q6, eq6, h⟩ := zbind h
    refine zo_virt (k' := 0) (n' := 0) 36 [] [] [.int (bI q6.1)] zkd_5 (zck_s eu5) (C_Ps_readClause n E S a0 M q6.1 q6.2 eq6) d_Ps_parse_33 tw_589 tw_586 tw_588 ts_6 tw_6 dd_Ps_readClause ⟨Nat.le_of_ble_eq_true rfl, Nat.le_of_ble_eq_true rfl, Nat.le_of_ble_eq_true rfl, Nat.le_of_ble_eq_true rfl⟩ (Nat.le_of_ble_eq_true rfl) rfl rfl rfl rfl ?_
    refine zo_ifneB d_Ps_parse_36 rfl 39 rfl (fun c7 => ?_) (fun c7 => ?_)
    · rw [if_pos c7] at h
      refine zi_aload_n 0 d_Ps_parse_47 rfl ?_
      obtain ⟨b8, eb8, h⟩ := zbind h
      refine zo_getR 51 zkd_5 1 d_Ps_parse_48 eb8 rfl tw_217 rfl ?_
      obtain ⟨u9, eu9, h⟩ := zbind h
      obtain ⟨q10, eq10, h⟩ := zbind h
      refine zo_virt (k' := 0) (n' := 0) 54 [] [] [.int (bI q10.1)] zkd_8 (zck_s eu9) (C_Ta_atEnd n E S b8 q6.2 q10.1 q10.2 eq10) d_Ps_parse_51 tw_833 tw_830 tw_831 tw_832 tw_5 dd_Ta_atEnd ⟨Nat.le_of_ble_eq_true rfl, Nat.le_of_ble_eq_true rfl, Nat.le_of_ble_eq_true rfl, Nat.le_of_ble_eq_true rfl⟩ (Nat.le_of_ble_eq_true rfl) rfl rfl rfl rfl ?_
      refine zo_ifeqB d_Ps_parse_54 rfl 57 rfl (fun c11 => ?_) (fun c11 => ?_)
      · rw [if_neg c11] at h
        refine zi_aload_n 0 d_Ps_parse_59 rfl ?_
        refine zo_getR 63 zkd_5 1 d_Ps_parse_60 eb8 rfl tw_217 rfl ?_
        refine zi_bipush 59 d_Ps_parse_63 rfl ?_
        obtain ⟨q12, eq12, h⟩ := zbind h
        refine zo_virt (k' := 0) (n' := 0) 68 [.int 59] [] [.int (bI q12.1)] zkd_8 (zck_s eu9) (C_Ta_atSign n E S b8 59 q10.2 q12.1 q12.2 eq12) d_Ps_parse_65 tw_683 tw_680 tw_681 tw_682 tw_5 dd_Ta_atSign ⟨Nat.le_of_ble_eq_true rfl, Nat.le_of_ble_eq_true rfl, Nat.le_of_ble_eq_true rfl, Nat.le_of_ble_eq_true rfl⟩ (Nat.le_of_ble_eq_true rfl) rfl rfl rfl rfl ?_
        refine zo_ifneB d_Ps_parse_68 rfl 71 rfl (fun c13 => ?_) (fun c13 => ?_)
        · rw [if_pos c13] at h
          refine zi_aload_n 0 d_Ps_parse_79 rfl ?_
          refine zo_getR 83 zkd_5 1 d_Ps_parse_80 eb8 rfl tw_217 rfl ?_
          obtain ⟨q14, eq14, h⟩ := zbind h
          refine zo_virt (k' := 0) (n' := 0) 86 [] [] [] zkd_8 (zck_s eu9) (C_Ta_advance n E S b8 q12.2 q14 eq14) d_Ps_parse_83 tw_577 tw_657 tw_575 tw_576 tw_5 dd_Ta_advance ⟨Nat.le_of_ble_eq_true rfl, Nat.le_of_ble_eq_true rfl, Nat.le_of_ble_eq_true rfl, Nat.le_of_ble_eq_true rfl⟩ (Nat.le_of_ble_eq_true rfl) rfl rfl rfl rfl ?_
          refine zi_iinc 1 (x2 + 1) [(2, .int (x2 + 1)), (0, .ref a0)] d_Ps_parse_86 rfl rfl (by decide) rfl ?_
          refine zi_goto (tgt := 26) d_Ps_parse_89 rfl ?_
          refine zi_lo [(0, .ref a0), (2, .int (x2 + 1))] [1, 0] rfl ?_
          exact hr26 a0 (x2 + 1) q14 h
        · rw [if_neg c13] at h
          refine zi_aload_n 0 d_Ps_parse_71 rfl ?_
          refine zo_getR 75 zkd_5 1 d_Ps_parse_72 eb8 rfl tw_217 rfl ?_
          obtain ⟨q15, eq15, h⟩ := zbind h
          refine zo_virt (k' := 0) (n' := 0) 78 [] [] [.int q15.1] zkd_8 (zck_s eu9) (C_Ta_place n E S b8 q12.2 q15.1 q15.2 eq15) d_Ps_parse_75 tw_829 tw_826 tw_827 tw_828 tw_5 dd_Ta_place ⟨Nat.le_of_ble_eq_true rfl, Nat.le_of_ble_eq_true rfl, Nat.le_of_ble_eq_true rfl, Nat.le_of_ble_eq_true rfl⟩ (Nat.le_of_ble_eq_true rfl) rfl rfl rfl rfl ?_
          cases h
          exact zo_ret d_Ps_parse_78 (Nat.le_of_ble_eq_true rfl) (Nat.le_of_ble_eq_true rfl) rfl
      · rw [if_pos c11] at h
        refine zi_iconst (-1) d_Ps_parse_57 rfl ?_
        cases h
        exact zo_ret d_Ps_parse_58 (Nat.le_of_ble_eq_true rfl) (Nat.le_of_ble_eq_true rfl) rfl
    · rw [if_neg c7] at h
      refine zi_aload_n 0 d_Ps_parse_39 rfl ?_
      obtain ⟨b16, eb16, h⟩ := zbind h
      refine zo_getR 43 zkd_5 1 d_Ps_parse_40 eb16 rfl tw_217 rfl ?_
      obtain ⟨u17, eu17, h⟩ := zbind h
      obtain ⟨q18, eq18, h⟩ := zbind h
      refine zo_virt (k' := 0) (n' := 0) 46 [] [] [.int q18.1] zkd_8 (zck_s eu17) (C_Ta_place n E S b16 q6.2 q18.1 q18.2 eq18) d_Ps_parse_43 tw_829 tw_826 tw_827 tw_828 tw_5 dd_Ta_place ⟨Nat.le_of_ble_eq_true rfl, Nat.le_of_ble_eq_true rfl, Nat.le_of_ble_eq_true rfl, Nat.le_of_ble_eq_true rfl⟩ (Nat.le_of_ble_eq_true rfl) rfl rfl rfl rfl ?_
      cases h
      exact zo_ret d_Ps_parse_46 (Nat.le_of_ble_eq_true rfl) (Nat.le_of_ble_eq_true rfl) rfl
theorem K_Ps_parse_b26 (n : Nat) (E : zE) (S : zS) (a0 : Nat) (x2 : Int32) (M : zH) (r : Int32) (M' : zH)  (h : F_Ps_parse_b26 n E S (a0, x2, M) = some (r, M')) : zG E Y_Ps_parse (some (.int r), S, M') 26 [(0, .ref a0), (2, .int x2)] [] S M 0 0 := by
  have key : ∀ (k : Nat) (a0 : Nat) (x2 : Int32) (M : zH), zfix (fun r26 s => F_Ps_parse_L26 n E S r26 s.1 s.2.1 s.2.2) k (a0, x2, M) = some (r, M') → zG E Y_Ps_parse (some (.int r), S, M') 26 [(0, .ref a0), (2, .int x2)] [] S M 0 0 := by
    intro k
    induction k with
    | zero => intro a0 x2 M h; cases h
    | succ k ih => intro a0 x2 M h; exact K_Ps_parse_L26 n E S _ a0 x2 M r M'  (fun a0 x2 M h => ih a0 x2 M h) h
  exact key n a0 x2 M h
theorem K_Ps_parse (n : Nat) (E : zE) (S : zS) (a0 : Nat) (x1 : Int32) (M : zH) (r : Int32) (M' : zH)  (h : F_Ps_parse n E S a0 x1 M = some (r, M')) : zG E Y_Ps_parse (some (.int r), S, M') 0 [(0, .ref a0), (1, .int x1)] [] S M 0 0 := by
  unfold F_Ps_parse at h
  refine zi_aload_n 0 d_Ps_parse_0 rfl ?_
  refine zi_iload_n 1 d_Ps_parse_1 rfl ?_
  obtain ⟨m19, em19, h⟩ := zbind h
  refine zo_putZ 5 zkd_5 2 d_Ps_parse_2 em19 rfl rfl rfl tw_218 rfl ?_
  refine zi_aload_n 0 d_Ps_parse_5 rfl ?_
  refine zi_iconst 0 d_Ps_parse_6 rfl ?_
  obtain ⟨m20, em20, h⟩ := zbind h
  refine zo_putI 10 zkd_5 3 d_Ps_parse_7 em20 rfl rfl rfl tw_219 rfl ?_
  refine zi_aload_n 0 d_Ps_parse_10 rfl ?_
  obtain ⟨b21, eb21, h⟩ := zbind h
  refine zo_getR 14 zkd_5 0 d_Ps_parse_11 eb21 rfl tw_215 rfl ?_
  obtain ⟨u22, eu22, h⟩ := zbind h
  obtain ⟨q23, eq23, h⟩ := zbind h
  refine zo_virt (k' := 0) (n' := 0) 17 [] [] [] zkd_9 (zck_s eu22) (C_Te_clear n E S b21 m20 q23 eq23) d_Ps_parse_14 tw_569 tw_566 tw_567 tw_568 tw_7 dd_Te_clear ⟨Nat.le_of_ble_eq_true rfl, Nat.le_of_ble_eq_true rfl, Nat.le_of_ble_eq_true rfl, Nat.le_of_ble_eq_true rfl⟩ (Nat.le_of_ble_eq_true rfl) rfl rfl rfl rfl ?_
  refine zi_aload_n 0 d_Ps_parse_17 rfl ?_
  obtain ⟨b24, eb24, h⟩ := zbind h
  refine zo_getR 21 zkd_5 1 d_Ps_parse_18 eb24 rfl tw_217 rfl ?_
  obtain ⟨u25, eu25, h⟩ := zbind h
  obtain ⟨q26, eq26, h⟩ := zbind h
  refine zo_virt (k' := 0) (n' := 0) 24 [] [] [] zkd_8 (zck_s eu25) (C_Ta_rewind n E S b24 q23 q26 eq26) d_Ps_parse_21 tw_573 tw_570 tw_571 tw_572 tw_5 dd_Ta_rewind ⟨Nat.le_of_ble_eq_true rfl, Nat.le_of_ble_eq_true rfl, Nat.le_of_ble_eq_true rfl, Nat.le_of_ble_eq_true rfl⟩ (Nat.le_of_ble_eq_true rfl) rfl rfl rfl rfl ?_
  refine zi_iconst 0 d_Ps_parse_24 rfl ?_
  refine zi_istore_n [(2, .int 0), (0, .ref a0), (1, .int x1)] d_Ps_parse_25 (by decide) rfl ?_
  refine zi_lo [(0, .ref a0), (2, .int 0)] [1, 0] rfl ?_
  exact K_Ps_parse_b26 n E S a0 0 q26 r M'  h
theorem C_Ps_parse (n : Nat) (E : zE) (S : zS) (a0 : Nat) (x1 : Int32) (M : zH) (r : Int32) (M' : zH) (h : F_Ps_parse n E S a0 x1 M = some (r, M')) : zC E Y_Ps_parse [.ref a0, .int x1] S M (some (.int r), S, M') :=
  zC.of (Or.inl (show plainName "NightColander$Parser" = true by decide)) (Nat.le_of_ble_eq_true rfl) (trivial) (K_Ps_parse n E S a0 x1 M r M' h)
theorem d_Ja_copyOf_0 : decode (yB Y_Ja_copyOf) 0 = .ok (.iload_n 1, 1) := by decide +kernel
theorem d_Ja_copyOf_1 : decode (yB Y_Ja_copyOf) 1 = .ok (.aload_n 0, 1) := by decide +kernel
theorem d_Ja_copyOf_2 : decode (yB Y_Ja_copyOf) 2 = .ok (.arraylength, 1) := by decide +kernel
theorem d_Ja_copyOf_3 : decode (yB Y_Ja_copyOf) 3 = .ok (.if_icmp .ne 11, 3) := by decide +kernel
theorem d_Ja_copyOf_6 : decode (yB Y_Ja_copyOf) 6 = .ok (.aload_n 0, 1) := by decide +kernel
theorem d_Ja_copyOf_7 : decode (yB Y_Ja_copyOf) 7 = .ok (.invokevirtual 316, 3) := by decide +kernel
theorem d_Ja_copyOf_10 : decode (yB Y_Ja_copyOf) 10 = .ok (.checkcast 317, 3) := by decide +kernel
theorem d_Ja_copyOf_13 : decode (yB Y_Ja_copyOf) 13 = .ok (.areturn, 1) := by decide +kernel
theorem d_Ja_copyOf_14 : decode (yB Y_Ja_copyOf) 14 = .ok (.iload_n 1, 1) := by decide +kernel
theorem d_Ja_copyOf_15 : decode (yB Y_Ja_copyOf) 15 = .ok (.newarray .int, 2) := by decide +kernel
theorem d_Ja_copyOf_17 : decode (yB Y_Ja_copyOf) 17 = .ok (.astore_n 2, 1) := by decide +kernel
theorem d_Ja_copyOf_18 : decode (yB Y_Ja_copyOf) 18 = .ok (.aload_n 0, 1) := by decide +kernel
theorem d_Ja_copyOf_19 : decode (yB Y_Ja_copyOf) 19 = .ok (.iconst 0, 1) := by decide +kernel
theorem d_Ja_copyOf_20 : decode (yB Y_Ja_copyOf) 20 = .ok (.aload_n 2, 1) := by decide +kernel
theorem d_Ja_copyOf_21 : decode (yB Y_Ja_copyOf) 21 = .ok (.iconst 0, 1) := by decide +kernel
theorem d_Ja_copyOf_22 : decode (yB Y_Ja_copyOf) 22 = .ok (.aload_n 0, 1) := by decide +kernel
theorem d_Ja_copyOf_23 : decode (yB Y_Ja_copyOf) 23 = .ok (.arraylength, 1) := by decide +kernel
theorem d_Ja_copyOf_24 : decode (yB Y_Ja_copyOf) 24 = .ok (.iload_n 1, 1) := by decide +kernel
theorem d_Ja_copyOf_25 : decode (yB Y_Ja_copyOf) 25 = .ok (.invokestatic 304, 3) := by decide +kernel
theorem d_Ja_copyOf_28 : decode (yB Y_Ja_copyOf) 28 = .ok (.invokestatic 150, 3) := by decide +kernel
theorem d_Ja_copyOf_31 : decode (yB Y_Ja_copyOf) 31 = .ok (.aload_n 2, 1) := by decide +kernel
theorem d_Ja_copyOf_32 : decode (yB Y_Ja_copyOf) 32 = .ok (.areturn, 1) := by decide +kernel
def F_Ja_copyOf (n : Nat) (E : zE) (a0 : Nat) (x1 : Int32) (S : zS) (M : zH) : Option (Nat × zS × zH) :=
  (zlen S 12 a0).bind fun v1 =>
  if x1 = v1 then
    (zcln S M a0 512).bind fun q3 =>
    some (q3.1, q3.2.1, q3.2.2)
  else
    (zmkA S M 12 x1 512).bind fun q4 =>
    (zlen q4.2.1 12 a0).bind fun v5 =>
    (F_Jm_min n E q4.2.1 v5 x1 q4.2.2).bind fun q6 =>
    (zcpy q4.2.1 q6.2 a0 0 q4.1 0 q6.1).bind fun m7 =>
    some (q4.1, q4.2.1, m7)
theorem K_Ja_copyOf (n : Nat) (E : zE) (a0 : Nat) (x1 : Int32) (S : zS) (M : zH) (r : Nat) (S' : zS) (M' : zH)  (h : F_Ja_copyOf n E a0 x1 S M = some (r, S', M')) : zG E Y_Ja_copyOf (some (.ref r), S', M') 0 [(0, .ref a0), (1, .int x1)] [] S M 0 0 := by
  unfold F_Ja_copyOf at h
  refine zi_iload_n 1 d_Ja_copyOf_0 rfl ?_
  refine zi_aload_n 0 d_Ja_copyOf_1 rfl ?_
  obtain ⟨v1, ev1, h⟩ := zbind h
  refine zo_alen 3 d_Ja_copyOf_2 ev1 (by decide) rfl ?_
  refine zi_icmp_ne (tgt := 14) d_Ja_copyOf_3 rfl (fun c2 => ?_) (fun c2 => ?_)
  · rw [if_neg c2] at h
    refine zi_iload_n 1 d_Ja_copyOf_14 rfl ?_
    obtain ⟨q4, eq4, h⟩ := zbind h
    refine zo_newarr (pos := 0) 17 d_Ja_copyOf_15 eq4 (by decide) rfl rfl (by decide) tw_129 (Nat.le_of_ble_eq_true rfl) (Nat.le_of_ble_eq_true rfl) rfl rfl rfl ?_
    refine zi_astore_n [(2, .ref q4.1), (0, .ref a0), (1, .int x1)] d_Ja_copyOf_17 (by decide) rfl ?_
    refine zi_aload_n 1 d_Ja_copyOf_18 rfl ?_
    refine zi_iconst 0 d_Ja_copyOf_19 rfl ?_
    refine zi_aload_n 0 d_Ja_copyOf_20 rfl ?_
    refine zi_iconst 0 d_Ja_copyOf_21 rfl ?_
    refine zi_aload_n 1 d_Ja_copyOf_22 rfl ?_
    obtain ⟨v5, ev5, h⟩ := zbind h
    refine zo_alen 24 d_Ja_copyOf_23 ev5 (by decide) rfl ?_
    refine zi_iload_n 2 d_Ja_copyOf_24 rfl ?_
    obtain ⟨q6, eq6, h⟩ := zbind h
    refine zo_stat (k' := 1) (n' := 512) 28 [.int v5, .int x1] [.int 0, .ref q4.1, .int 0, .ref a0] [.int q6.1, .int 0, .ref q4.1, .int 0, .ref a0] (C_Jm_min n E q4.2.1 v5 x1 q4.2.2 q6.1 q6.2 eq6) d_Ja_copyOf_25 tw_433 tw_852 tw_432 tw_14 dd_Jm_min ⟨Nat.le_of_ble_eq_true rfl, Nat.le_of_ble_eq_true rfl, Nat.le_of_ble_eq_true rfl, Nat.le_of_ble_eq_true rfl⟩ (Nat.le_of_ble_eq_true rfl) rfl rfl rfl rfl ?_
    obtain ⟨m7, em7, h⟩ := zbind h
    refine zo_cpy 31 d_Ja_copyOf_28 em7 tw_853 zcpw rfl (by decide) (Nat.le_of_ble_eq_true rfl) ?_
    refine zi_aload_n 0 d_Ja_copyOf_31 rfl ?_
    cases h
    exact zo_ret d_Ja_copyOf_32 (Nat.le_of_ble_eq_true rfl) (Nat.le_of_ble_eq_true rfl) rfl
  · rw [if_pos c2] at h
    refine zi_aload_n 0 d_Ja_copyOf_6 rfl ?_
    obtain ⟨q3, eq3, h⟩ := zbind h
    refine zo_clone 13 d_Ja_copyOf_7 d_Ja_copyOf_10 eq3 tw_845 tw_846 tw_847 tw_848 tw_849 tw_851 (by decide) (Nat.le_of_ble_eq_true rfl) (Nat.le_of_ble_eq_true rfl) (Nat.le_of_ble_eq_true rfl) rfl rfl rfl ?_
    cases h
    exact zo_ret d_Ja_copyOf_13 (Nat.le_of_ble_eq_true rfl) (Nat.le_of_ble_eq_true rfl) rfl
theorem C_Ja_copyOf (n : Nat) (E : zE) (a0 : Nat) (x1 : Int32) (S : zS) (M : zH) (r : Nat) (S' : zS) (M' : zH) (h : F_Ja_copyOf n E a0 x1 S M = some (r, S', M')) : zC E Y_Ja_copyOf [.ref a0, .int x1] S M (some (.ref r), S', M') :=
  zC.of (Or.inl (show plainName "java/util/Arrays" = true by decide)) (Nat.le_of_ble_eq_true rfl) (trivial) (K_Ja_copyOf n E a0 x1 S M r S' M' h)
theorem d_Te_init1_0 : decode (yB Y_Te_init1) 0 = .ok (.aload_n 0, 1) := by decide +kernel
theorem d_Te_init1_1 : decode (yB Y_Te_init1) 1 = .ok (.invokespecial 1, 3) := by decide +kernel
theorem d_Te_init1_4 : decode (yB Y_Te_init1) 4 = .ok (.aload_n 0, 1) := by decide +kernel
theorem d_Te_init1_5 : decode (yB Y_Te_init1) 5 = .ok (.iconst 0, 1) := by decide +kernel
theorem d_Te_init1_6 : decode (yB Y_Te_init1) 6 = .ok (.putfield 7, 3) := by decide +kernel
theorem d_Te_init1_9 : decode (yB Y_Te_init1) 9 = .ok (.aload_n 0, 1) := by decide +kernel
theorem d_Te_init1_10 : decode (yB Y_Te_init1) 10 = .ok (.iconst 0, 1) := by decide +kernel
theorem d_Te_init1_11 : decode (yB Y_Te_init1) 11 = .ok (.putfield 13, 3) := by decide +kernel
theorem d_Te_init1_14 : decode (yB Y_Te_init1) 14 = .ok (.aload_n 0, 1) := by decide +kernel
theorem d_Te_init1_15 : decode (yB Y_Te_init1) 15 = .ok (.aload_n 1, 1) := by decide +kernel
theorem d_Te_init1_16 : decode (yB Y_Te_init1) 16 = .ok (.getfield 16, 3) := by decide +kernel
theorem d_Te_init1_19 : decode (yB Y_Te_init1) 19 = .ok (.aload_n 1, 1) := by decide +kernel
theorem d_Te_init1_20 : decode (yB Y_Te_init1) 20 = .ok (.getfield 7, 3) := by decide +kernel
theorem d_Te_init1_23 : decode (yB Y_Te_init1) 23 = .ok (.iconst 0, 1) := by decide +kernel
theorem d_Te_init1_24 : decode (yB Y_Te_init1) 24 = .ok (.invokestatic 32, 3) := by decide +kernel
theorem d_Te_init1_27 : decode (yB Y_Te_init1) 27 = .ok (.invokestatic 38, 3) := by decide +kernel
theorem d_Te_init1_30 : decode (yB Y_Te_init1) 30 = .ok (.putfield 16, 3) := by decide +kernel
theorem d_Te_init1_33 : decode (yB Y_Te_init1) 33 = .ok (.aload_n 0, 1) := by decide +kernel
theorem d_Te_init1_34 : decode (yB Y_Te_init1) 34 = .ok (.aload_n 1, 1) := by decide +kernel
theorem d_Te_init1_35 : decode (yB Y_Te_init1) 35 = .ok (.getfield 20, 3) := by decide +kernel
theorem d_Te_init1_38 : decode (yB Y_Te_init1) 38 = .ok (.bipush 12, 2) := by decide +kernel
theorem d_Te_init1_40 : decode (yB Y_Te_init1) 40 = .ok (.invokestatic 38, 3) := by decide +kernel
theorem d_Te_init1_43 : decode (yB Y_Te_init1) 43 = .ok (.putfield 20, 3) := by decide +kernel
theorem d_Te_init1_46 : decode (yB Y_Te_init1) 46 = .ok (.aload_n 0, 1) := by decide +kernel
theorem d_Te_init1_47 : decode (yB Y_Te_init1) 47 = .ok (.aload_n 1, 1) := by decide +kernel
theorem d_Te_init1_48 : decode (yB Y_Te_init1) 48 = .ok (.getfield 23, 3) := by decide +kernel
theorem d_Te_init1_51 : decode (yB Y_Te_init1) 51 = .ok (.bipush 12, 2) := by decide +kernel
theorem d_Te_init1_53 : decode (yB Y_Te_init1) 53 = .ok (.invokestatic 38, 3) := by decide +kernel
theorem d_Te_init1_56 : decode (yB Y_Te_init1) 56 = .ok (.putfield 23, 3) := by decide +kernel
theorem d_Te_init1_59 : decode (yB Y_Te_init1) 59 = .ok (.aload_n 0, 1) := by decide +kernel
theorem d_Te_init1_60 : decode (yB Y_Te_init1) 60 = .ok (.aload_n 1, 1) := by decide +kernel
theorem d_Te_init1_61 : decode (yB Y_Te_init1) 61 = .ok (.getfield 26, 3) := by decide +kernel
theorem d_Te_init1_64 : decode (yB Y_Te_init1) 64 = .ok (.bipush 12, 2) := by decide +kernel
theorem d_Te_init1_66 : decode (yB Y_Te_init1) 66 = .ok (.invokestatic 38, 3) := by decide +kernel
theorem d_Te_init1_69 : decode (yB Y_Te_init1) 69 = .ok (.putfield 26, 3) := by decide +kernel
theorem d_Te_init1_72 : decode (yB Y_Te_init1) 72 = .ok (.aload_n 0, 1) := by decide +kernel
theorem d_Te_init1_73 : decode (yB Y_Te_init1) 73 = .ok (.aload_n 1, 1) := by decide +kernel
theorem d_Te_init1_74 : decode (yB Y_Te_init1) 74 = .ok (.getfield 29, 3) := by decide +kernel
theorem d_Te_init1_77 : decode (yB Y_Te_init1) 77 = .ok (.bipush 48, 2) := by decide +kernel
theorem d_Te_init1_79 : decode (yB Y_Te_init1) 79 = .ok (.invokestatic 38, 3) := by decide +kernel
theorem d_Te_init1_82 : decode (yB Y_Te_init1) 82 = .ok (.putfield 29, 3) := by decide +kernel
theorem d_Te_init1_85 : decode (yB Y_Te_init1) 85 = .ok (.aload_n 0, 1) := by decide +kernel
theorem d_Te_init1_86 : decode (yB Y_Te_init1) 86 = .ok (.aload_n 1, 1) := by decide +kernel
theorem d_Te_init1_87 : decode (yB Y_Te_init1) 87 = .ok (.getfield 7, 3) := by decide +kernel
theorem d_Te_init1_90 : decode (yB Y_Te_init1) 90 = .ok (.putfield 7, 3) := by decide +kernel
theorem d_Te_init1_93 : decode (yB Y_Te_init1) 93 = .ok (.aload_n 0, 1) := by decide +kernel
theorem d_Te_init1_94 : decode (yB Y_Te_init1) 94 = .ok (.aload_n 1, 1) := by decide +kernel
theorem d_Te_init1_95 : decode (yB Y_Te_init1) 95 = .ok (.getfield 13, 3) := by decide +kernel
theorem d_Te_init1_98 : decode (yB Y_Te_init1) 98 = .ok (.putfield 13, 3) := by decide +kernel
theorem d_Te_init1_101 : decode (yB Y_Te_init1) 101 = .ok (.return_, 1) := by decide +kernel
def F_Te_init1 (n : Nat) (E : zE) (a0 : Nat) (a1 : Nat) (S : zS) (M : zH) : Option (zS × zH) :=
  (zpI S M a0 9 5 0).bind fun m1 =>
  (zpI S m1 a0 9 6 0).bind fun m2 =>
  (zgR S a1 9 0).bind fun b3 =>
  (zgI S m2 a1 9 5).bind fun v4 =>
  (F_Jm_max n E S v4 0 m2).bind fun q5 =>
  (F_Ja_copyOf n E b3 q5.1 S q5.2).bind fun q6 =>
  (zpR q6.2.1 a0 9 0 q6.1).bind fun S7 =>
  (zgR S7 a1 9 1).bind fun b8 =>
  (F_Ja_copyOf n E b8 12 S7 q6.2.2).bind fun q9 =>
  (zpR q9.2.1 a0 9 1 q9.1).bind fun S10 =>
  (zgR S10 a1 9 2).bind fun b11 =>
  (F_Ja_copyOf n E b11 12 S10 q9.2.2).bind fun q12 =>
  (zpR q12.2.1 a0 9 2 q12.1).bind fun S13 =>
  (zgR S13 a1 9 3).bind fun b14 =>
  (F_Ja_copyOf n E b14 12 S13 q12.2.2).bind fun q15 =>
  (zpR q15.2.1 a0 9 3 q15.1).bind fun S16 =>
  (zgR S16 a1 9 4).bind fun b17 =>
  (F_Ja_copyOf n E b17 48 S16 q15.2.2).bind fun q18 =>
  (zpR q18.2.1 a0 9 4 q18.1).bind fun S19 =>
  (zgI S19 q18.2.2 a1 9 5).bind fun v20 =>
  (zpI S19 q18.2.2 a0 9 5 v20).bind fun m21 =>
  (zgI S19 m21 a1 9 6).bind fun v22 =>
  (zpI S19 m21 a0 9 6 v22).bind fun m23 =>
  some (S19, m23)
theorem K_Te_init1 (n : Nat) (E : zE) (a0 : Nat) (a1 : Nat) (S : zS) (M : zH) (S' : zS) (M' : zH)  (h : F_Te_init1 n E a0 a1 S M = some (S', M')) : zG E Y_Te_init1 (none, S', M') 0 [(0, .ref a0), (1, .ref a1)] [] S M 0 0 := by
  unfold F_Te_init1 at h
  refine zi_aload_n 0 d_Te_init1_0 rfl ?_
  refine zi_objInit d_Te_init1_1 tw_184 tw_28 zobj (by decide) (Nat.le_of_ble_eq_true rfl) ?_
  refine zi_aload_n 0 d_Te_init1_4 rfl ?_
  refine zi_iconst 0 d_Te_init1_5 rfl ?_
  obtain ⟨m1, em1, h⟩ := zbind h
  refine zo_putI 9 zkd_9 5 d_Te_init1_6 em1 rfl rfl rfl tw_195 rfl ?_
  refine zi_aload_n 0 d_Te_init1_9 rfl ?_
  refine zi_iconst 0 d_Te_init1_10 rfl ?_
  obtain ⟨m2, em2, h⟩ := zbind h
  refine zo_putI 14 zkd_9 6 d_Te_init1_11 em2 rfl rfl rfl tw_197 rfl ?_
  refine zi_aload_n 0 d_Te_init1_14 rfl ?_
  refine zi_aload_n 1 d_Te_init1_15 rfl ?_
  obtain ⟨b3, eb3, h⟩ := zbind h
  refine zo_getR 19 zkd_9 0 d_Te_init1_16 eb3 rfl tw_185 rfl ?_
  refine zi_aload_n 1 d_Te_init1_19 rfl ?_
  obtain ⟨v4, ev4, h⟩ := zbind h
  refine zo_getI 23 zkd_9 5 d_Te_init1_20 ev4 rfl tw_195 rfl ?_
  refine zi_iconst 0 d_Te_init1_23 rfl ?_
  obtain ⟨q5, eq5, h⟩ := zbind h
  refine zo_stat (k' := 0) (n' := 0) 27 [.int v4, .int 0] [.ref b3, .ref a0] [.int q5.1, .ref b3, .ref a0] (C_Jm_max n E S v4 0 m2 q5.1 q5.2 eq5) d_Te_init1_24 tw_436 tw_656 tw_435 tw_14 dd_Jm_max ⟨Nat.le_of_ble_eq_true rfl, Nat.le_of_ble_eq_true rfl, Nat.le_of_ble_eq_true rfl, Nat.le_of_ble_eq_true rfl⟩ (Nat.le_of_ble_eq_true rfl) rfl rfl rfl rfl ?_
  obtain ⟨q6, eq6, h⟩ := zbind h
  refine zo_stat (k' := 1) (n' := 512) 30 [.ref b3, .int q5.1] [.ref a0] [.ref q6.1, .ref a0] (C_Ja_copyOf n E b3 q5.1 S q5.2 q6.1 q6.2.1 q6.2.2 eq6) d_Te_init1_27 tw_844 tw_842 tw_843 tw_3 dd_Ja_copyOf ⟨Nat.le_of_ble_eq_true rfl, Nat.le_of_ble_eq_true rfl, Nat.le_of_ble_eq_true rfl, Nat.le_of_ble_eq_true rfl⟩ (Nat.le_of_ble_eq_true rfl) rfl rfl rfl rfl ?_
  obtain ⟨S7, eS7, h⟩ := zbind h
  refine zo_putR 33 zkd_9 0 d_Te_init1_30 eS7 rfl rfl rfl rfl ⟨rfl, rfl⟩ tw_185 rfl ?_
  refine zi_aload_n 0 d_Te_init1_33 rfl ?_
  refine zi_aload_n 1 d_Te_init1_34 rfl ?_
  obtain ⟨b8, eb8, h⟩ := zbind h
  refine zo_getR 38 zkd_9 1 d_Te_init1_35 eb8 rfl tw_187 rfl ?_
  refine zi_bipush 12 d_Te_init1_38 rfl ?_
  obtain ⟨q9, eq9, h⟩ := zbind h
  refine zo_stat (k' := 2) (n' := 1024) 43 [.ref b8, .int 12] [.ref a0] [.ref q9.1, .ref a0] (C_Ja_copyOf n E b8 12 S7 q6.2.2 q9.1 q9.2.1 q9.2.2 eq9) d_Te_init1_40 tw_844 tw_842 tw_843 tw_3 dd_Ja_copyOf ⟨Nat.le_of_ble_eq_true rfl, Nat.le_of_ble_eq_true rfl, Nat.le_of_ble_eq_true rfl, Nat.le_of_ble_eq_true rfl⟩ (Nat.le_of_ble_eq_true rfl) rfl rfl rfl rfl ?_
  obtain ⟨S10, eS10, h⟩ := zbind h
  refine zo_putR 46 zkd_9 1 d_Te_init1_43 eS10 rfl rfl rfl rfl ⟨rfl, rfl⟩ tw_187 rfl ?_
  refine zi_aload_n 0 d_Te_init1_46 rfl ?_
  refine zi_aload_n 1 d_Te_init1_47 rfl ?_
  obtain ⟨b11, eb11, h⟩ := zbind h
  refine zo_getR 51 zkd_9 2 d_Te_init1_48 eb11 rfl tw_190 rfl ?_
  refine zi_bipush 12 d_Te_init1_51 rfl ?_
  obtain ⟨q12, eq12, h⟩ := zbind h
  refine zo_stat (k' := 3) (n' := 1536) 56 [.ref b11, .int 12] [.ref a0] [.ref q12.1, .ref a0] (C_Ja_copyOf n E b11 12 S10 q9.2.2 q12.1 q12.2.1 q12.2.2 eq12) d_Te_init1_53 tw_844 tw_842 tw_843 tw_3 dd_Ja_copyOf ⟨Nat.le_of_ble_eq_true rfl, Nat.le_of_ble_eq_true rfl, Nat.le_of_ble_eq_true rfl, Nat.le_of_ble_eq_true rfl⟩ (Nat.le_of_ble_eq_true rfl) rfl rfl rfl rfl ?_
  obtain ⟨S13, eS13, h⟩ := zbind h
  refine zo_putR 59 zkd_9 2 d_Te_init1_56 eS13 rfl rfl rfl rfl ⟨rfl, rfl⟩ tw_190 rfl ?_
  refine zi_aload_n 0 d_Te_init1_59 rfl ?_
  refine zi_aload_n 1 d_Te_init1_60 rfl ?_
  obtain ⟨b14, eb14, h⟩ := zbind h
  refine zo_getR 64 zkd_9 3 d_Te_init1_61 eb14 rfl tw_192 rfl ?_
  refine zi_bipush 12 d_Te_init1_64 rfl ?_
  obtain ⟨q15, eq15, h⟩ := zbind h
  refine zo_stat (k' := 4) (n' := 2048) 69 [.ref b14, .int 12] [.ref a0] [.ref q15.1, .ref a0] (C_Ja_copyOf n E b14 12 S13 q12.2.2 q15.1 q15.2.1 q15.2.2 eq15) d_Te_init1_66 tw_844 tw_842 tw_843 tw_3 dd_Ja_copyOf ⟨Nat.le_of_ble_eq_true rfl, Nat.le_of_ble_eq_true rfl, Nat.le_of_ble_eq_true rfl, Nat.le_of_ble_eq_true rfl⟩ (Nat.le_of_ble_eq_true rfl) rfl rfl rfl rfl ?_
  obtain ⟨S16, eS16, h⟩ := zbind h
  refine zo_putR 72 zkd_9 3 d_Te_init1_69 eS16 rfl rfl rfl rfl ⟨rfl, rfl⟩ tw_192 rfl ?_
  refine zi_aload_n 0 d_Te_init1_72 rfl ?_
  refine zi_aload_n 1 d_Te_init1_73 rfl ?_
  obtain ⟨b17, eb17, h⟩ := zbind h
  refine zo_getR 77 zkd_9 4 d_Te_init1_74 eb17 rfl tw_194 rfl ?_
  refine zi_bipush 48 d_Te_init1_77 rfl ?_
  obtain ⟨q18, eq18, h⟩ := zbind h
  refine zo_stat (k' := 5) (n' := 2560) 82 [.ref b17, .int 48] [.ref a0] [.ref q18.1, .ref a0] (C_Ja_copyOf n E b17 48 S16 q15.2.2 q18.1 q18.2.1 q18.2.2 eq18) d_Te_init1_79 tw_844 tw_842 tw_843 tw_3 dd_Ja_copyOf ⟨Nat.le_of_ble_eq_true rfl, Nat.le_of_ble_eq_true rfl, Nat.le_of_ble_eq_true rfl, Nat.le_of_ble_eq_true rfl⟩ (Nat.le_of_ble_eq_true rfl) rfl rfl rfl rfl ?_
  obtain ⟨S19, eS19, h⟩ := zbind h
  refine zo_putR 85 zkd_9 4 d_Te_init1_82 eS19 rfl rfl rfl rfl ⟨rfl, rfl⟩ tw_194 rfl ?_
  refine zi_aload_n 0 d_Te_init1_85 rfl ?_
  refine zi_aload_n 1 d_Te_init1_86 rfl ?_
  obtain ⟨v20, ev20, h⟩ := zbind h
  refine zo_getI 90 zkd_9 5 d_Te_init1_87 ev20 rfl tw_195 rfl ?_
  obtain ⟨m21, em21, h⟩ := zbind h
  refine zo_putI 93 zkd_9 5 d_Te_init1_90 em21 rfl rfl rfl tw_195 rfl ?_
  refine zi_aload_n 0 d_Te_init1_93 rfl ?_
  refine zi_aload_n 1 d_Te_init1_94 rfl ?_
  obtain ⟨v22, ev22, h⟩ := zbind h
  refine zo_getI 98 zkd_9 6 d_Te_init1_95 ev22 rfl tw_197 rfl ?_
  obtain ⟨m23, em23, h⟩ := zbind h
  refine zo_putI 101 zkd_9 6 d_Te_init1_98 em23 rfl rfl rfl tw_197 rfl ?_
  cases h
  exact zo_ret d_Te_init1_101 (Nat.le_of_ble_eq_true rfl) (Nat.le_of_ble_eq_true rfl) rfl
theorem C_Te_init1 (n : Nat) (E : zE) (a0 : Nat) (a1 : Nat) (S : zS) (M : zH) (S' : zS) (M' : zH) (h : F_Te_init1 n E a0 a1 S M = some (S', M')) : zC E Y_Te_init1 [.ref a0, .ref a1] S M (none, S', M') :=
  zC.of (Or.inl (show plainName "NightColander$Text" = true by decide)) (Nat.le_of_ble_eq_true rfl) (trivial) (K_Te_init1 n E a0 a1 S M S' M' h)
theorem d_Te_copy_0 : decode (yB Y_Te_copy) 0 = .ok (.new 8, 3) := by decide +kernel
theorem d_Te_copy_3 : decode (yB Y_Te_copy) 3 = .ok (.dup, 1) := by decide +kernel
theorem d_Te_copy_4 : decode (yB Y_Te_copy) 4 = .ok (.aload_n 0, 1) := by decide +kernel
theorem d_Te_copy_5 : decode (yB Y_Te_copy) 5 = .ok (.invokespecial 44, 3) := by decide +kernel
theorem d_Te_copy_8 : decode (yB Y_Te_copy) 8 = .ok (.areturn, 1) := by decide +kernel
def F_Te_copy (n : Nat) (E : zE) (a0 : Nat) (S : zS) (M : zH) : Option (Nat × zS × zH) :=
  (zmkO S M 9).bind fun q1 =>
  (F_Te_init1 n E q1.1 a0 q1.2.1 q1.2.2).bind fun q2 =>
  some (q1.1, q2.1, q2.2)
theorem K_Te_copy (n : Nat) (E : zE) (a0 : Nat) (S : zS) (M : zH) (r : Nat) (S' : zS) (M' : zH)  (h : F_Te_copy n E a0 S M = some (r, S', M')) : zG E Y_Te_copy (some (.ref r), S', M') 0 [(0, .ref a0)] [] S M 0 0 := by
  unfold F_Te_copy at h
  obtain ⟨q1, eq1, h⟩ := zbind h
  refine zo_new 3 zkd_9 d_Te_copy_0 eq1 tw_838 tw_180 tw_7 (by decide) (Nat.le_of_ble_eq_true rfl) (Nat.le_of_ble_eq_true rfl) rfl rfl rfl ?_
  refine zi_dup d_Te_copy_3 rfl ?_
  refine zi_aload_n 0 d_Te_copy_4 rfl ?_
  obtain ⟨q2, eq2, h⟩ := zbind h
  refine zo_init (k' := 6) (n' := 2567) 8 [.ref a0] [.ref q1.1] (C_Te_init1 n E q1.1 a0 q1.2.1 q1.2.2 q2.1 q2.2 eq2) d_Te_copy_5 rfl rfl tw_841 tw_839 tw_840 tw_7 dd_Te_init1 ⟨Nat.le_of_ble_eq_true rfl, Nat.le_of_ble_eq_true rfl, Nat.le_of_ble_eq_true rfl, Nat.le_of_ble_eq_true rfl⟩ (Nat.le_of_ble_eq_true rfl) rfl rfl rfl ?_
  cases h
  exact zo_ret d_Te_copy_8 (Nat.le_of_ble_eq_true rfl) (Nat.le_of_ble_eq_true rfl) rfl
theorem C_Te_copy (n : Nat) (E : zE) (a0 : Nat) (S : zS) (M : zH) (r : Nat) (S' : zS) (M' : zH) (h : F_Te_copy n E a0 S M = some (r, S', M')) : zC E Y_Te_copy [.ref a0] S M (some (.ref r), S', M') :=
  zC.of (Or.inl (show plainName "NightColander$Text" = true by decide)) (Nat.le_of_ble_eq_true rfl) (trivial) (K_Te_copy n E a0 S M r S' M' h)
theorem d_NC_law_0 : decode (yB Y_NC_law) 0 = .ok (.aload_n 0, 1) := by decide +kernel
theorem d_NC_law_1 : decode (yB Y_NC_law) 1 = .ok (.getfield 12, 3) := by decide +kernel
theorem d_NC_law_4 : decode (yB Y_NC_law) 4 = .ok (.getfield 208, 3) := by decide +kernel
theorem d_NC_law_7 : decode (yB Y_NC_law) 7 = .ok (.bipush 6, 2) := by decide +kernel
theorem d_NC_law_9 : decode (yB Y_NC_law) 9 = .ok (.if_icmp .lt 18, 3) := by decide +kernel
theorem d_NC_law_12 : decode (yB Y_NC_law) 12 = .ok (.aload_n 0, 1) := by decide +kernel
theorem d_NC_law_13 : decode (yB Y_NC_law) 13 = .ok (.getfield 45, 3) := by decide +kernel
theorem d_NC_law_16 : decode (yB Y_NC_law) 16 = .ok (.iconst 0, 1) := by decide +kernel
theorem d_NC_law_17 : decode (yB Y_NC_law) 17 = .ok (.putfield 202, 3) := by decide +kernel
theorem d_NC_law_20 : decode (yB Y_NC_law) 20 = .ok (.aload_n 0, 1) := by decide +kernel
theorem d_NC_law_21 : decode (yB Y_NC_law) 21 = .ok (.bipush (-5), 2) := by decide +kernel
theorem d_NC_law_23 : decode (yB Y_NC_law) 23 = .ok (.invokevirtual 136, 3) := by decide +kernel
theorem d_NC_law_26 : decode (yB Y_NC_law) 26 = .ok (.ireturn, 1) := by decide +kernel
theorem d_NC_law_27 : decode (yB Y_NC_law) 27 = .ok (.aload_n 0, 1) := by decide +kernel
theorem d_NC_law_28 : decode (yB Y_NC_law) 28 = .ok (.aload_n 0, 1) := by decide +kernel
theorem d_NC_law_29 : decode (yB Y_NC_law) 29 = .ok (.getfield 54, 3) := by decide +kernel
theorem d_NC_law_32 : decode (yB Y_NC_law) 32 = .ok (.iconst 0, 1) := by decide +kernel
theorem d_NC_law_33 : decode (yB Y_NC_law) 33 = .ok (.invokevirtual 211, 3) := by decide +kernel
theorem d_NC_law_36 : decode (yB Y_NC_law) 36 = .ok (.putfield 105, 3) := by decide +kernel
theorem d_NC_law_39 : decode (yB Y_NC_law) 39 = .ok (.aload_n 0, 1) := by decide +kernel
theorem d_NC_law_40 : decode (yB Y_NC_law) 40 = .ok (.getfield 45, 3) := by decide +kernel
theorem d_NC_law_43 : decode (yB Y_NC_law) 43 = .ok (.iconst 0, 1) := by decide +kernel
theorem d_NC_law_44 : decode (yB Y_NC_law) 44 = .ok (.putfield 202, 3) := by decide +kernel
theorem d_NC_law_47 : decode (yB Y_NC_law) 47 = .ok (.aload_n 0, 1) := by decide +kernel
theorem d_NC_law_48 : decode (yB Y_NC_law) 48 = .ok (.getfield 105, 3) := by decide +kernel
theorem d_NC_law_51 : decode (yB Y_NC_law) 51 = .ok (.iconst (-1), 1) := by decide +kernel
theorem d_NC_law_52 : decode (yB Y_NC_law) 52 = .ok (.if_icmp .eq 10, 3) := by decide +kernel
theorem d_NC_law_55 : decode (yB Y_NC_law) 55 = .ok (.aload_n 0, 1) := by decide +kernel
theorem d_NC_law_56 : decode (yB Y_NC_law) 56 = .ok (.bipush (-6), 2) := by decide +kernel
theorem d_NC_law_58 : decode (yB Y_NC_law) 58 = .ok (.invokevirtual 136, 3) := by decide +kernel
theorem d_NC_law_61 : decode (yB Y_NC_law) 61 = .ok (.ireturn, 1) := by decide +kernel
theorem d_NC_law_62 : decode (yB Y_NC_law) 62 = .ok (.aload_n 0, 1) := by decide +kernel
theorem d_NC_law_63 : decode (yB Y_NC_law) 63 = .ok (.aload_n 0, 1) := by decide +kernel
theorem d_NC_law_64 : decode (yB Y_NC_law) 64 = .ok (.getfield 12, 3) := by decide +kernel
theorem d_NC_law_67 : decode (yB Y_NC_law) 67 = .ok (.aload_n 0, 1) := by decide +kernel
theorem d_NC_law_68 : decode (yB Y_NC_law) 68 = .ok (.getfield 54, 3) := by decide +kernel
theorem d_NC_law_71 : decode (yB Y_NC_law) 71 = .ok (.getfield 215, 3) := by decide +kernel
theorem d_NC_law_74 : decode (yB Y_NC_law) 74 = .ok (.invokevirtual 219, 3) := by decide +kernel
theorem d_NC_law_77 : decode (yB Y_NC_law) 77 = .ok (.invokevirtual 225, 3) := by decide +kernel
theorem d_NC_law_80 : decode (yB Y_NC_law) 80 = .ok (.invokevirtual 146, 3) := by decide +kernel
theorem d_NC_law_83 : decode (yB Y_NC_law) 83 = .ok (.ireturn, 1) := by decide +kernel
def F_NC_law (n : Nat) (E : zE) (a0 : Nat) (S : zS) (M : zH) : Option (Int32 × zS × zH) :=
  (zgR S a0 10 0).bind fun b1 =>
  (zgI S M b1 3 13).bind fun v2 =>
  if v2 < 6 then
    (zgR S a0 10 8).bind fun b4 =>
    (zck S b4 5).bind fun u5 =>
    (F_Ps_parse n E S b4 0 M).bind fun q6 =>
    (zpI S q6.2 a0 10 17 q6.1).bind fun m7 =>
    (zgR S a0 10 7).bind fun b8 =>
    (zpI S m7 b8 8 1 0).bind fun m9 =>
    (zgI S m9 a0 10 17).bind fun v10 =>
    if v10 = (-1) then
      (zgR S b4 5 0).bind fun b12 =>
      (zck S b12 9).bind fun u13 =>
      (F_Te_copy n E b12 S m9).bind fun q14 =>
      (zck q14.2.1 b1 3).bind fun u15 =>
      (F_Ni_addLaw n E q14.2.1 b1 q14.1 q14.2.2).bind fun q16 =>
      (zck q14.2.1 a0 10).bind fun u17 =>
      (F_NC_accept n E q14.2.1 a0 q16.1 q16.2).bind fun q18 =>
      some (q18.1, q14.2.1, q18.2)
    else
      (F_NC_refuse n E S a0 (-6) m9).bind fun q19 =>
      some (q19.1, S, q19.2)
  else
    (zgR S a0 10 7).bind fun b20 =>
    (zpI S M b20 8 1 0).bind fun m21 =>
    (F_NC_refuse n E S a0 (-5) m21).bind fun q22 =>
    some (q22.1, S, q22.2)
theorem K_NC_law (n : Nat) (E : zE) (a0 : Nat) (S : zS) (M : zH) (r : Int32) (S' : zS) (M' : zH)  (h : F_NC_law n E a0 S M = some (r, S', M')) : zG E Y_NC_law (some (.int r), S', M') 0 [(0, .ref a0)] [] S M 0 0 := by
  unfold F_NC_law at h
  refine zi_aload_n 0 d_NC_law_0 rfl ?_
  obtain ⟨b1, eb1, h⟩ := zbind h
  refine zo_getR 4 zkd_10 0 d_NC_law_1 eb1 rfl tw_332 rfl ?_
  obtain ⟨v2, ev2, h⟩ := zbind h
  refine zo_getI 7 zkd_3 13 d_NC_law_4 ev2 rfl tw_94 rfl ?_
  refine zi_bipush 6 d_NC_law_7 rfl ?_
  refine zi_icmp_lt (tgt := 27) d_NC_law_9 rfl (fun c3 => ?_) (fun c3 => ?_)
  · rw [if_pos c3] at h
    refine zi_aload_n 0 d_NC_law_27 rfl ?_
    refine zi_aload_n 0 d_NC_law_28 rfl ?_
    obtain ⟨b4, eb4, h⟩ := zbind h
    refine zo_getR 32 zkd_10 8 d_NC_law_29 eb4 rfl tw_340 rfl ?_
    refine zi_iconst 0 d_NC_law_32 rfl ?_
    obtain ⟨u5, eu5, h⟩ := zbind h
    obtain ⟨q6, eq6, h⟩ := zbind h
    refine zo_virt (k' := 0) (n' := 0) 36 [.int 0] [.ref a0] [.int q6.1, .ref a0] zkd_5 (zck_s eu5) (C_Ps_parse n E S b4 0 M q6.1 q6.2 eq6) d_NC_law_33 tw_565 tw_562 tw_563 tw_564 tw_6 dd_Ps_parse ⟨Nat.le_of_ble_eq_true rfl, Nat.le_of_ble_eq_true rfl, Nat.le_of_ble_eq_true rfl, Nat.le_of_ble_eq_true rfl⟩ (Nat.le_of_ble_eq_true rfl) rfl rfl rfl rfl ?_
    obtain ⟨m7, em7, h⟩ := zbind h
    refine zo_putI 39 zkd_10 17 d_NC_law_36 em7 rfl rfl rfl tw_349 rfl ?_
    refine zi_aload_n 0 d_NC_law_39 rfl ?_
    obtain ⟨b8, eb8, h⟩ := zbind h
    refine zo_getR 43 zkd_10 7 d_NC_law_40 eb8 rfl tw_339 rfl ?_
    refine zi_iconst 0 d_NC_law_43 rfl ?_
    obtain ⟨m9, em9, h⟩ := zbind h
    refine zo_putI 47 zkd_8 1 d_NC_law_44 em9 rfl rfl rfl tw_154 rfl ?_
    refine zi_aload_n 0 d_NC_law_47 rfl ?_
    obtain ⟨v10, ev10, h⟩ := zbind h
    refine zo_getI 51 zkd_10 17 d_NC_law_48 ev10 rfl tw_349 rfl ?_
    refine zi_iconst (-1) d_NC_law_51 rfl ?_
    refine zi_icmp_eq (tgt := 62) d_NC_law_52 rfl (fun c11 => ?_) (fun c11 => ?_)
    · rw [if_pos c11] at h
      refine zi_aload_n 0 d_NC_law_62 rfl ?_
      refine zi_aload_n 0 d_NC_law_63 rfl ?_
      refine zo_getR 67 zkd_10 0 d_NC_law_64 eb1 rfl tw_332 rfl ?_
      refine zi_aload_n 0 d_NC_law_67 rfl ?_
      refine zo_getR 71 zkd_10 8 d_NC_law_68 eb4 rfl tw_340 rfl ?_
      obtain ⟨b12, eb12, h⟩ := zbind h
      refine zo_getR 74 zkd_5 0 d_NC_law_71 eb12 rfl tw_216 rfl ?_
      obtain ⟨u13, eu13, h⟩ := zbind h
      obtain ⟨q14, eq14, h⟩ := zbind h
      refine zo_virt (k' := 6) (n' := 2567) 77 [] [.ref b1, .ref a0] [.ref q14.1, .ref b1, .ref a0] zkd_9 (zck_s eu13) (C_Te_copy n E b12 S m9 q14.1 q14.2.1 q14.2.2 eq14) d_NC_law_74 tw_837 tw_834 tw_835 tw_836 tw_7 dd_Te_copy ⟨Nat.le_of_ble_eq_true rfl, Nat.le_of_ble_eq_true rfl, Nat.le_of_ble_eq_true rfl, Nat.le_of_ble_eq_true rfl⟩ (Nat.le_of_ble_eq_true rfl) rfl rfl rfl rfl ?_
      obtain ⟨u15, eu15, h⟩ := zbind h
      obtain ⟨q16, eq16, h⟩ := zbind h
      refine zo_virt (k' := 6) (n' := 2567) 80 [.ref q14.1] [.ref a0] [.int q16.1, .ref a0] zkd_3 (zck_s eu15) (C_Ni_addLaw n E q14.2.1 b1 q14.1 q14.2.2 q16.1 q16.2 eq16) d_NC_law_77 tw_859 tw_856 tw_857 tw_858 tw_2 dd_Ni_addLaw ⟨Nat.le_of_ble_eq_true rfl, Nat.le_of_ble_eq_true rfl, Nat.le_of_ble_eq_true rfl, Nat.le_of_ble_eq_true rfl⟩ (Nat.le_of_ble_eq_true rfl) rfl rfl rfl rfl ?_
      obtain ⟨u17, eu17, h⟩ := zbind h
      obtain ⟨q18, eq18, h⟩ := zbind h
      refine zo_virt (k' := 6) (n' := 2567) 83 [.int q16.1] [] [.int q18.1] zkd_10 (zck_s eu17) (C_NC_accept n E q14.2.1 a0 q16.1 q16.2 q18.1 q18.2 eq18) d_NC_law_80 tw_458 tw_455 tw_457 ts_2 tw_1 dd_NC_accept ⟨Nat.le_of_ble_eq_true rfl, Nat.le_of_ble_eq_true rfl, Nat.le_of_ble_eq_true rfl, Nat.le_of_ble_eq_true rfl⟩ (Nat.le_of_ble_eq_true rfl) rfl rfl rfl rfl ?_
      cases h
      exact zo_ret d_NC_law_83 (Nat.le_of_ble_eq_true rfl) (Nat.le_of_ble_eq_true rfl) rfl
    · rw [if_neg c11] at h
      refine zi_aload_n 0 d_NC_law_55 rfl ?_
      refine zi_bipush (-6) d_NC_law_56 rfl ?_
      obtain ⟨q19, eq19, h⟩ := zbind h
      refine zo_virt (k' := 0) (n' := 0) 61 [.int (-6)] [] [.int q19.1] zkd_10 (zgR_s eb1).1 (C_NC_refuse n E S a0 (-6) m9 q19.1 q19.2 eq19) d_NC_law_58 tw_450 tw_447 tw_449 ts_1 tw_1 dd_NC_refuse ⟨Nat.le_of_ble_eq_true rfl, Nat.le_of_ble_eq_true rfl, Nat.le_of_ble_eq_true rfl, Nat.le_of_ble_eq_true rfl⟩ (Nat.le_of_ble_eq_true rfl) rfl rfl rfl rfl ?_
      cases h
      exact zo_ret d_NC_law_61 (Nat.le_of_ble_eq_true rfl) (Nat.le_of_ble_eq_true rfl) rfl
  · rw [if_neg c3] at h
    refine zi_aload_n 0 d_NC_law_12 rfl ?_
    obtain ⟨b20, eb20, h⟩ := zbind h
    refine zo_getR 16 zkd_10 7 d_NC_law_13 eb20 rfl tw_339 rfl ?_
    refine zi_iconst 0 d_NC_law_16 rfl ?_
    obtain ⟨m21, em21, h⟩ := zbind h
    refine zo_putI 20 zkd_8 1 d_NC_law_17 em21 rfl rfl rfl tw_154 rfl ?_
    refine zi_aload_n 0 d_NC_law_20 rfl ?_
    refine zi_bipush (-5) d_NC_law_21 rfl ?_
    obtain ⟨q22, eq22, h⟩ := zbind h
    refine zo_virt (k' := 0) (n' := 0) 26 [.int (-5)] [] [.int q22.1] zkd_10 (zgR_s eb1).1 (C_NC_refuse n E S a0 (-5) m21 q22.1 q22.2 eq22) d_NC_law_23 tw_450 tw_447 tw_449 ts_1 tw_1 dd_NC_refuse ⟨Nat.le_of_ble_eq_true rfl, Nat.le_of_ble_eq_true rfl, Nat.le_of_ble_eq_true rfl, Nat.le_of_ble_eq_true rfl⟩ (Nat.le_of_ble_eq_true rfl) rfl rfl rfl rfl ?_
    cases h
    exact zo_ret d_NC_law_26 (Nat.le_of_ble_eq_true rfl) (Nat.le_of_ble_eq_true rfl) rfl
theorem C_NC_law (n : Nat) (E : zE) (a0 : Nat) (S : zS) (M : zH) (r : Int32) (S' : zS) (M' : zH) (h : F_NC_law n E a0 S M = some (r, S', M')) : zC E Y_NC_law [.ref a0] S M (some (.int r), S', M') :=
  zC.of (Or.inl (show plainName "NightColander" = true by decide)) (Nat.le_of_ble_eq_true rfl) (trivial) (K_NC_law n E a0 S M r S' M' h)
theorem d_Ni_copyFrom_0 : decode (yB Y_Ni_copyFrom) 0 = .ok (.aload_n 1, 1) := by decide +kernel
theorem d_Ni_copyFrom_1 : decode (yB Y_Ni_copyFrom) 1 = .ok (.getfield 9, 3) := by decide +kernel
theorem d_Ni_copyFrom_4 : decode (yB Y_Ni_copyFrom) 4 = .ok (.iconst 0, 1) := by decide +kernel
theorem d_Ni_copyFrom_5 : decode (yB Y_Ni_copyFrom) 5 = .ok (.aload_n 0, 1) := by decide +kernel
theorem d_Ni_copyFrom_6 : decode (yB Y_Ni_copyFrom) 6 = .ok (.getfield 9, 3) := by decide +kernel
theorem d_Ni_copyFrom_9 : decode (yB Y_Ni_copyFrom) 9 = .ok (.iconst 0, 1) := by decide +kernel
theorem d_Ni_copyFrom_10 : decode (yB Y_Ni_copyFrom) 10 = .ok (.aload_n 0, 1) := by decide +kernel
theorem d_Ni_copyFrom_11 : decode (yB Y_Ni_copyFrom) 11 = .ok (.getfield 9, 3) := by decide +kernel
theorem d_Ni_copyFrom_14 : decode (yB Y_Ni_copyFrom) 14 = .ok (.arraylength, 1) := by decide +kernel
theorem d_Ni_copyFrom_15 : decode (yB Y_Ni_copyFrom) 15 = .ok (.invokestatic 68, 3) := by decide +kernel
theorem d_Ni_copyFrom_18 : decode (yB Y_Ni_copyFrom) 18 = .ok (.aload_n 1, 1) := by decide +kernel
theorem d_Ni_copyFrom_19 : decode (yB Y_Ni_copyFrom) 19 = .ok (.getfield 19, 3) := by decide +kernel
theorem d_Ni_copyFrom_22 : decode (yB Y_Ni_copyFrom) 22 = .ok (.iconst 0, 1) := by decide +kernel
theorem d_Ni_copyFrom_23 : decode (yB Y_Ni_copyFrom) 23 = .ok (.aload_n 0, 1) := by decide +kernel
theorem d_Ni_copyFrom_24 : decode (yB Y_Ni_copyFrom) 24 = .ok (.getfield 19, 3) := by decide +kernel
theorem d_Ni_copyFrom_27 : decode (yB Y_Ni_copyFrom) 27 = .ok (.iconst 0, 1) := by decide +kernel
theorem d_Ni_copyFrom_28 : decode (yB Y_Ni_copyFrom) 28 = .ok (.aload_n 0, 1) := by decide +kernel
theorem d_Ni_copyFrom_29 : decode (yB Y_Ni_copyFrom) 29 = .ok (.getfield 19, 3) := by decide +kernel
theorem d_Ni_copyFrom_32 : decode (yB Y_Ni_copyFrom) 32 = .ok (.arraylength, 1) := by decide +kernel
theorem d_Ni_copyFrom_33 : decode (yB Y_Ni_copyFrom) 33 = .ok (.invokestatic 68, 3) := by decide +kernel
theorem d_Ni_copyFrom_36 : decode (yB Y_Ni_copyFrom) 36 = .ok (.aload_n 1, 1) := by decide +kernel
theorem d_Ni_copyFrom_37 : decode (yB Y_Ni_copyFrom) 37 = .ok (.getfield 22, 3) := by decide +kernel
theorem d_Ni_copyFrom_40 : decode (yB Y_Ni_copyFrom) 40 = .ok (.iconst 0, 1) := by decide +kernel
theorem d_Ni_copyFrom_41 : decode (yB Y_Ni_copyFrom) 41 = .ok (.aload_n 0, 1) := by decide +kernel
theorem d_Ni_copyFrom_42 : decode (yB Y_Ni_copyFrom) 42 = .ok (.getfield 22, 3) := by decide +kernel
theorem d_Ni_copyFrom_45 : decode (yB Y_Ni_copyFrom) 45 = .ok (.iconst 0, 1) := by decide +kernel
theorem d_Ni_copyFrom_46 : decode (yB Y_Ni_copyFrom) 46 = .ok (.aload_n 0, 1) := by decide +kernel
theorem d_Ni_copyFrom_47 : decode (yB Y_Ni_copyFrom) 47 = .ok (.getfield 22, 3) := by decide +kernel
theorem d_Ni_copyFrom_50 : decode (yB Y_Ni_copyFrom) 50 = .ok (.arraylength, 1) := by decide +kernel
theorem d_Ni_copyFrom_51 : decode (yB Y_Ni_copyFrom) 51 = .ok (.invokestatic 68, 3) := by decide +kernel
theorem d_Ni_copyFrom_54 : decode (yB Y_Ni_copyFrom) 54 = .ok (.aload_n 1, 1) := by decide +kernel
theorem d_Ni_copyFrom_55 : decode (yB Y_Ni_copyFrom) 55 = .ok (.getfield 25, 3) := by decide +kernel
theorem d_Ni_copyFrom_58 : decode (yB Y_Ni_copyFrom) 58 = .ok (.iconst 0, 1) := by decide +kernel
theorem d_Ni_copyFrom_59 : decode (yB Y_Ni_copyFrom) 59 = .ok (.aload_n 0, 1) := by decide +kernel
theorem d_Ni_copyFrom_60 : decode (yB Y_Ni_copyFrom) 60 = .ok (.getfield 25, 3) := by decide +kernel
theorem d_Ni_copyFrom_63 : decode (yB Y_Ni_copyFrom) 63 = .ok (.iconst 0, 1) := by decide +kernel
theorem d_Ni_copyFrom_64 : decode (yB Y_Ni_copyFrom) 64 = .ok (.aload_n 0, 1) := by decide +kernel
theorem d_Ni_copyFrom_65 : decode (yB Y_Ni_copyFrom) 65 = .ok (.getfield 25, 3) := by decide +kernel
theorem d_Ni_copyFrom_68 : decode (yB Y_Ni_copyFrom) 68 = .ok (.arraylength, 1) := by decide +kernel
theorem d_Ni_copyFrom_69 : decode (yB Y_Ni_copyFrom) 69 = .ok (.invokestatic 68, 3) := by decide +kernel
theorem d_Ni_copyFrom_72 : decode (yB Y_Ni_copyFrom) 72 = .ok (.aload_n 1, 1) := by decide +kernel
theorem d_Ni_copyFrom_73 : decode (yB Y_Ni_copyFrom) 73 = .ok (.getfield 28, 3) := by decide +kernel
theorem d_Ni_copyFrom_76 : decode (yB Y_Ni_copyFrom) 76 = .ok (.iconst 0, 1) := by decide +kernel
theorem d_Ni_copyFrom_77 : decode (yB Y_Ni_copyFrom) 77 = .ok (.aload_n 0, 1) := by decide +kernel
theorem d_Ni_copyFrom_78 : decode (yB Y_Ni_copyFrom) 78 = .ok (.getfield 28, 3) := by decide +kernel
theorem d_Ni_copyFrom_81 : decode (yB Y_Ni_copyFrom) 81 = .ok (.iconst 0, 1) := by decide +kernel
theorem d_Ni_copyFrom_82 : decode (yB Y_Ni_copyFrom) 82 = .ok (.aload_n 0, 1) := by decide +kernel
theorem d_Ni_copyFrom_83 : decode (yB Y_Ni_copyFrom) 83 = .ok (.getfield 28, 3) := by decide +kernel
theorem d_Ni_copyFrom_86 : decode (yB Y_Ni_copyFrom) 86 = .ok (.arraylength, 1) := by decide +kernel
theorem d_Ni_copyFrom_87 : decode (yB Y_Ni_copyFrom) 87 = .ok (.invokestatic 68, 3) := by decide +kernel
theorem d_Ni_copyFrom_90 : decode (yB Y_Ni_copyFrom) 90 = .ok (.aload_n 1, 1) := by decide +kernel
theorem d_Ni_copyFrom_91 : decode (yB Y_Ni_copyFrom) 91 = .ok (.getfield 31, 3) := by decide +kernel
theorem d_Ni_copyFrom_94 : decode (yB Y_Ni_copyFrom) 94 = .ok (.iconst 0, 1) := by decide +kernel
theorem d_Ni_copyFrom_95 : decode (yB Y_Ni_copyFrom) 95 = .ok (.aload_n 0, 1) := by decide +kernel
theorem d_Ni_copyFrom_96 : decode (yB Y_Ni_copyFrom) 96 = .ok (.getfield 31, 3) := by decide +kernel
theorem d_Ni_copyFrom_99 : decode (yB Y_Ni_copyFrom) 99 = .ok (.iconst 0, 1) := by decide +kernel
theorem d_Ni_copyFrom_100 : decode (yB Y_Ni_copyFrom) 100 = .ok (.aload_n 0, 1) := by decide +kernel
theorem d_Ni_copyFrom_101 : decode (yB Y_Ni_copyFrom) 101 = .ok (.getfield 31, 3) := by decide +kernel
theorem d_Ni_copyFrom_104 : decode (yB Y_Ni_copyFrom) 104 = .ok (.arraylength, 1) := by decide +kernel
theorem d_Ni_copyFrom_105 : decode (yB Y_Ni_copyFrom) 105 = .ok (.invokestatic 68, 3) := by decide +kernel
theorem d_Ni_copyFrom_108 : decode (yB Y_Ni_copyFrom) 108 = .ok (.aload_n 1, 1) := by decide +kernel
theorem d_Ni_copyFrom_109 : decode (yB Y_Ni_copyFrom) 109 = .ok (.getfield 34, 3) := by decide +kernel
theorem d_Ni_copyFrom_112 : decode (yB Y_Ni_copyFrom) 112 = .ok (.iconst 0, 1) := by decide +kernel
theorem d_Ni_copyFrom_113 : decode (yB Y_Ni_copyFrom) 113 = .ok (.aload_n 0, 1) := by decide +kernel
theorem d_Ni_copyFrom_114 : decode (yB Y_Ni_copyFrom) 114 = .ok (.getfield 34, 3) := by decide +kernel
theorem d_Ni_copyFrom_117 : decode (yB Y_Ni_copyFrom) 117 = .ok (.iconst 0, 1) := by decide +kernel
theorem d_Ni_copyFrom_118 : decode (yB Y_Ni_copyFrom) 118 = .ok (.aload_n 0, 1) := by decide +kernel
theorem d_Ni_copyFrom_119 : decode (yB Y_Ni_copyFrom) 119 = .ok (.getfield 34, 3) := by decide +kernel
theorem d_Ni_copyFrom_122 : decode (yB Y_Ni_copyFrom) 122 = .ok (.arraylength, 1) := by decide +kernel
theorem d_Ni_copyFrom_123 : decode (yB Y_Ni_copyFrom) 123 = .ok (.invokestatic 68, 3) := by decide +kernel
theorem d_Ni_copyFrom_126 : decode (yB Y_Ni_copyFrom) 126 = .ok (.aload_n 1, 1) := by decide +kernel
theorem d_Ni_copyFrom_127 : decode (yB Y_Ni_copyFrom) 127 = .ok (.getfield 37, 3) := by decide +kernel
theorem d_Ni_copyFrom_130 : decode (yB Y_Ni_copyFrom) 130 = .ok (.iconst 0, 1) := by decide +kernel
theorem d_Ni_copyFrom_131 : decode (yB Y_Ni_copyFrom) 131 = .ok (.aload_n 0, 1) := by decide +kernel
theorem d_Ni_copyFrom_132 : decode (yB Y_Ni_copyFrom) 132 = .ok (.getfield 37, 3) := by decide +kernel
theorem d_Ni_copyFrom_135 : decode (yB Y_Ni_copyFrom) 135 = .ok (.iconst 0, 1) := by decide +kernel
theorem d_Ni_copyFrom_136 : decode (yB Y_Ni_copyFrom) 136 = .ok (.aload_n 0, 1) := by decide +kernel
theorem d_Ni_copyFrom_137 : decode (yB Y_Ni_copyFrom) 137 = .ok (.getfield 37, 3) := by decide +kernel
theorem d_Ni_copyFrom_140 : decode (yB Y_Ni_copyFrom) 140 = .ok (.arraylength, 1) := by decide +kernel
theorem d_Ni_copyFrom_141 : decode (yB Y_Ni_copyFrom) 141 = .ok (.invokestatic 68, 3) := by decide +kernel
theorem d_Ni_copyFrom_144 : decode (yB Y_Ni_copyFrom) 144 = .ok (.aload_n 1, 1) := by decide +kernel
theorem d_Ni_copyFrom_145 : decode (yB Y_Ni_copyFrom) 145 = .ok (.getfield 40, 3) := by decide +kernel
theorem d_Ni_copyFrom_148 : decode (yB Y_Ni_copyFrom) 148 = .ok (.iconst 0, 1) := by decide +kernel
theorem d_Ni_copyFrom_149 : decode (yB Y_Ni_copyFrom) 149 = .ok (.aload_n 0, 1) := by decide +kernel
theorem d_Ni_copyFrom_150 : decode (yB Y_Ni_copyFrom) 150 = .ok (.getfield 40, 3) := by decide +kernel
theorem d_Ni_copyFrom_153 : decode (yB Y_Ni_copyFrom) 153 = .ok (.iconst 0, 1) := by decide +kernel
theorem d_Ni_copyFrom_154 : decode (yB Y_Ni_copyFrom) 154 = .ok (.aload_n 0, 1) := by decide +kernel
theorem d_Ni_copyFrom_155 : decode (yB Y_Ni_copyFrom) 155 = .ok (.getfield 40, 3) := by decide +kernel
theorem d_Ni_copyFrom_158 : decode (yB Y_Ni_copyFrom) 158 = .ok (.arraylength, 1) := by decide +kernel
theorem d_Ni_copyFrom_159 : decode (yB Y_Ni_copyFrom) 159 = .ok (.invokestatic 68, 3) := by decide +kernel
theorem d_Ni_copyFrom_162 : decode (yB Y_Ni_copyFrom) 162 = .ok (.iconst 0, 1) := by decide +kernel
theorem d_Ni_copyFrom_163 : decode (yB Y_Ni_copyFrom) 163 = .ok (.istore_n 2, 1) := by decide +kernel
theorem d_Ni_copyFrom_164 : decode (yB Y_Ni_copyFrom) 164 = .ok (.iload_n 2, 1) := by decide +kernel
theorem d_Ni_copyFrom_165 : decode (yB Y_Ni_copyFrom) 165 = .ok (.bipush 32, 2) := by decide +kernel
theorem d_Ni_copyFrom_167 : decode (yB Y_Ni_copyFrom) 167 = .ok (.if_icmp .ge 21, 3) := by decide +kernel
theorem d_Ni_copyFrom_170 : decode (yB Y_Ni_copyFrom) 170 = .ok (.aload_n 0, 1) := by decide +kernel
theorem d_Ni_copyFrom_171 : decode (yB Y_Ni_copyFrom) 171 = .ok (.getfield 15, 3) := by decide +kernel
theorem d_Ni_copyFrom_174 : decode (yB Y_Ni_copyFrom) 174 = .ok (.iload_n 2, 1) := by decide +kernel
theorem d_Ni_copyFrom_175 : decode (yB Y_Ni_copyFrom) 175 = .ok (.aload_n 1, 1) := by decide +kernel
theorem d_Ni_copyFrom_176 : decode (yB Y_Ni_copyFrom) 176 = .ok (.getfield 15, 3) := by decide +kernel
theorem d_Ni_copyFrom_179 : decode (yB Y_Ni_copyFrom) 179 = .ok (.iload_n 2, 1) := by decide +kernel
theorem d_Ni_copyFrom_180 : decode (yB Y_Ni_copyFrom) 180 = .ok (.baload, 1) := by decide +kernel
theorem d_Ni_copyFrom_181 : decode (yB Y_Ni_copyFrom) 181 = .ok (.bastore, 1) := by decide +kernel
theorem d_Ni_copyFrom_182 : decode (yB Y_Ni_copyFrom) 182 = .ok (.iinc 2 1, 3) := by decide +kernel
theorem d_Ni_copyFrom_185 : decode (yB Y_Ni_copyFrom) 185 = .ok (.goto (-21), 3) := by decide +kernel
theorem d_Ni_copyFrom_188 : decode (yB Y_Ni_copyFrom) 188 = .ok (.iconst 0, 1) := by decide +kernel
theorem d_Ni_copyFrom_189 : decode (yB Y_Ni_copyFrom) 189 = .ok (.istore_n 2, 1) := by decide +kernel
theorem d_Ni_copyFrom_190 : decode (yB Y_Ni_copyFrom) 190 = .ok (.iload_n 2, 1) := by decide +kernel
theorem d_Ni_copyFrom_191 : decode (yB Y_Ni_copyFrom) 191 = .ok (.bipush 6, 2) := by decide +kernel
theorem d_Ni_copyFrom_193 : decode (yB Y_Ni_copyFrom) 193 = .ok (.if_icmp .ge 21, 3) := by decide +kernel
theorem d_Ni_copyFrom_196 : decode (yB Y_Ni_copyFrom) 196 = .ok (.aload_n 0, 1) := by decide +kernel
theorem d_Ni_copyFrom_197 : decode (yB Y_Ni_copyFrom) 197 = .ok (.getfield 45, 3) := by decide +kernel
theorem d_Ni_copyFrom_200 : decode (yB Y_Ni_copyFrom) 200 = .ok (.iload_n 2, 1) := by decide +kernel
theorem d_Ni_copyFrom_201 : decode (yB Y_Ni_copyFrom) 201 = .ok (.aload_n 1, 1) := by decide +kernel
theorem d_Ni_copyFrom_202 : decode (yB Y_Ni_copyFrom) 202 = .ok (.getfield 45, 3) := by decide +kernel
theorem d_Ni_copyFrom_205 : decode (yB Y_Ni_copyFrom) 205 = .ok (.iload_n 2, 1) := by decide +kernel
theorem d_Ni_copyFrom_206 : decode (yB Y_Ni_copyFrom) 206 = .ok (.aaload, 1) := by decide +kernel
theorem d_Ni_copyFrom_207 : decode (yB Y_Ni_copyFrom) 207 = .ok (.aastore, 1) := by decide +kernel
theorem d_Ni_copyFrom_208 : decode (yB Y_Ni_copyFrom) 208 = .ok (.iinc 2 1, 3) := by decide +kernel
theorem d_Ni_copyFrom_211 : decode (yB Y_Ni_copyFrom) 211 = .ok (.goto (-21), 3) := by decide +kernel
theorem d_Ni_copyFrom_214 : decode (yB Y_Ni_copyFrom) 214 = .ok (.aload_n 0, 1) := by decide +kernel
theorem d_Ni_copyFrom_215 : decode (yB Y_Ni_copyFrom) 215 = .ok (.aload_n 1, 1) := by decide +kernel
theorem d_Ni_copyFrom_216 : decode (yB Y_Ni_copyFrom) 216 = .ok (.getfield 49, 3) := by decide +kernel
theorem d_Ni_copyFrom_219 : decode (yB Y_Ni_copyFrom) 219 = .ok (.putfield 49, 3) := by decide +kernel
theorem d_Ni_copyFrom_222 : decode (yB Y_Ni_copyFrom) 222 = .ok (.aload_n 0, 1) := by decide +kernel
theorem d_Ni_copyFrom_223 : decode (yB Y_Ni_copyFrom) 223 = .ok (.aload_n 1, 1) := by decide +kernel
theorem d_Ni_copyFrom_224 : decode (yB Y_Ni_copyFrom) 224 = .ok (.getfield 53, 3) := by decide +kernel
theorem d_Ni_copyFrom_227 : decode (yB Y_Ni_copyFrom) 227 = .ok (.putfield 53, 3) := by decide +kernel
theorem d_Ni_copyFrom_230 : decode (yB Y_Ni_copyFrom) 230 = .ok (.aload_n 0, 1) := by decide +kernel
theorem d_Ni_copyFrom_231 : decode (yB Y_Ni_copyFrom) 231 = .ok (.aload_n 1, 1) := by decide +kernel
theorem d_Ni_copyFrom_232 : decode (yB Y_Ni_copyFrom) 232 = .ok (.getfield 56, 3) := by decide +kernel
theorem d_Ni_copyFrom_235 : decode (yB Y_Ni_copyFrom) 235 = .ok (.putfield 56, 3) := by decide +kernel
theorem d_Ni_copyFrom_238 : decode (yB Y_Ni_copyFrom) 238 = .ok (.aload_n 0, 1) := by decide +kernel
theorem d_Ni_copyFrom_239 : decode (yB Y_Ni_copyFrom) 239 = .ok (.aload_n 1, 1) := by decide +kernel
theorem d_Ni_copyFrom_240 : decode (yB Y_Ni_copyFrom) 240 = .ok (.getfield 59, 3) := by decide +kernel
theorem d_Ni_copyFrom_243 : decode (yB Y_Ni_copyFrom) 243 = .ok (.putfield 59, 3) := by decide +kernel
theorem d_Ni_copyFrom_246 : decode (yB Y_Ni_copyFrom) 246 = .ok (.return_, 1) := by decide +kernel
def F_Ni_copyFrom_L190 (n : Nat) (E : zE) (S : zS) (r190 : Nat × Nat × Int32 × zH → Option (zH)) (a0 : Nat) (a1 : Nat) (x2 : Int32) (M : zH) : Option (zH) :=
  if 6 ≤ x2 then
    (zgI S M a1 3 11).bind fun v2 =>
    (zpI S M a0 3 11 v2).bind fun m3 =>
    (zgI S m3 a1 3 12).bind fun v4 =>
    (zpI S m3 a0 3 12 v4).bind fun m5 =>
    (zgI S m5 a1 3 13).bind fun v6 =>
    (zpI S m5 a0 3 13 v6).bind fun m7 =>
    (zgI S m7 a1 3 14).bind fun v8 =>
    (zpI S m7 a0 3 14 v8).bind fun m9 =>
    some (m9)
  else
    (zgR S a0 3 10).bind fun b10 =>
    (zgR S a1 3 10).bind fun b11 =>
    (zldR S M 16 b11 x2).bind fun o12 =>
    (zstQ S M b10 x2 o12).bind fun m13 =>
    r190 (a0, a1, x2 + 1, m13)
def F_Ni_copyFrom_b190 (n : Nat) (E : zE) (S : zS) : Nat × Nat × Int32 × zH → Option (zH) := zfix (fun r190 s => F_Ni_copyFrom_L190 n E S r190 s.1 s.2.1 s.2.2.1 s.2.2.2) n
def F_Ni_copyFrom_L164 (n : Nat) (E : zE) (S : zS) (r164 : Nat × Nat × Int32 × zH → Option (zH)) (a0 : Nat) (a1 : Nat) (x2 : Int32) (M : zH) : Option (zH) :=
  if 32 ≤ x2 then
    F_Ni_copyFrom_b190 n E S (a0, a1, 0, M)
  else
    (zgR S a0 3 1).bind fun b15 =>
    (zgR S a1 3 1).bind fun b16 =>
    (zldZ S M b16 x2).bind fun v17 =>
    (zstZ S M b15 x2 v17).bind fun m18 =>
    r164 (a0, a1, x2 + 1, m18)
def F_Ni_copyFrom_b164 (n : Nat) (E : zE) (S : zS) : Nat × Nat × Int32 × zH → Option (zH) := zfix (fun r164 s => F_Ni_copyFrom_L164 n E S r164 s.1 s.2.1 s.2.2.1 s.2.2.2) n
def F_Ni_copyFrom (n : Nat) (E : zE) (S : zS) (a0 : Nat) (a1 : Nat) (M : zH) : Option (zH) :=
  (zgR S a1 3 0).bind fun b19 =>
  (zgR S a0 3 0).bind fun b20 =>
  (zlen S 12 b20).bind fun v21 =>
  (zcpy S M b19 0 b20 0 v21).bind fun m22 =>
  (zgR S a1 3 2).bind fun b23 =>
  (zgR S a0 3 2).bind fun b24 =>
  (zlen S 12 b24).bind fun v25 =>
  (zcpy S m22 b23 0 b24 0 v25).bind fun m26 =>
  (zgR S a1 3 3).bind fun b27 =>
  (zgR S a0 3 3).bind fun b28 =>
  (zlen S 12 b28).bind fun v29 =>
  (zcpy S m26 b27 0 b28 0 v29).bind fun m30 =>
  (zgR S a1 3 4).bind fun b31 =>
  (zgR S a0 3 4).bind fun b32 =>
  (zlen S 12 b32).bind fun v33 =>
  (zcpy S m30 b31 0 b32 0 v33).bind fun m34 =>
  (zgR S a1 3 5).bind fun b35 =>
  (zgR S a0 3 5).bind fun b36 =>
  (zlen S 12 b36).bind fun v37 =>
  (zcpy S m34 b35 0 b36 0 v37).bind fun m38 =>
  (zgR S a1 3 6).bind fun b39 =>
  (zgR S a0 3 6).bind fun b40 =>
  (zlen S 12 b40).bind fun v41 =>
  (zcpy S m38 b39 0 b40 0 v41).bind fun m42 =>
  (zgR S a1 3 7).bind fun b43 =>
  (zgR S a0 3 7).bind fun b44 =>
  (zlen S 12 b44).bind fun v45 =>
  (zcpy S m42 b43 0 b44 0 v45).bind fun m46 =>
  (zgR S a1 3 8).bind fun b47 =>
  (zgR S a0 3 8).bind fun b48 =>
  (zlen S 12 b48).bind fun v49 =>
  (zcpy S m46 b47 0 b48 0 v49).bind fun m50 =>
  (zgR S a1 3 9).bind fun b51 =>
  (zgR S a0 3 9).bind fun b52 =>
  (zlen S 12 b52).bind fun v53 =>
  (zcpy S m50 b51 0 b52 0 v53).bind fun m54 =>
  F_Ni_copyFrom_b164 n E S (a0, a1, 0, m54)
theorem K_Ni_copyFrom_L190 (n : Nat) (E : zE) (S : zS) (r190 : Nat × Nat × Int32 × zH → Option (zH)) (a0 : Nat) (a1 : Nat) (x2 : Int32) (M : zH) (M' : zH) (hr190 : ∀ (a0 : Nat) (a1 : Nat) (x2 : Int32) (M : zH), r190 (a0, a1, x2, M) = some M' → zG E Y_Ni_copyFrom (none, S, M') 190 [(0, .ref a0), (1, .ref a1), (2, .int x2)] [] S M 0 0) (h : F_Ni_copyFrom_L190 n E S r190 a0 a1 x2 M = some M') : zG E Y_Ni_copyFrom (none, S, M') 190 [(0, .ref a0), (1, .ref a1), (2, .int x2)] [] S M 0 0 := by
  unfold F_Ni_copyFrom_L190 at h
  refine zi_iload_n 2 d_Ni_copyFrom_190 rfl ?_
  refine zi_bipush 6 d_Ni_copyFrom_191 rfl ?_
  refine zi_icmp_ge (tgt := 214) d_Ni_copyFrom_193 rfl (fun c1 => ?_) (fun c1 => ?_)
  · rw [if_pos c1] at h
    refine zi_aload_n 0 d_Ni_copyFrom_214 rfl ?_
    refine zi_aload_n 1 d_Ni_copyFrom_215 rfl ?_
    obtain ⟨v2, ev2, h⟩ := zbind h
    refine zo_getI 219 zkd_3 11 d_Ni_copyFrom_216 ev2 rfl tw_86 rfl ?_
    obtain ⟨m3, em3, h⟩ := zbind h
    refine zo_putI 222 zkd_3 11 d_Ni_copyFrom_219 em3 rfl rfl rfl tw_86 rfl ?_
    refine zi_aload_n 0 d_Ni_copyFrom_222 rfl ?_
    refine zi_aload_n 1 d_Ni_copyFrom_223 rfl ?_
    obtain ⟨v4, ev4, h⟩ := zbind h
    refine zo_getI 227 zkd_3 12 d_Ni_copyFrom_224 ev4 rfl tw_90 rfl ?_
    obtain ⟨m5, em5, h⟩ := zbind h
    refine zo_putI 230 zkd_3 12 d_Ni_copyFrom_227 em5 rfl rfl rfl tw_90 rfl ?_
    refine zi_aload_n 0 d_Ni_copyFrom_230 rfl ?_
    refine zi_aload_n 1 d_Ni_copyFrom_231 rfl ?_
    obtain ⟨v6, ev6, h⟩ := zbind h
    refine zo_getI 235 zkd_3 13 d_Ni_copyFrom_232 ev6 rfl tw_93 rfl ?_
    obtain ⟨m7, em7, h⟩ := zbind h
    refine zo_putI 238 zkd_3 13 d_Ni_copyFrom_235 em7 rfl rfl rfl tw_93 rfl ?_
    refine zi_aload_n 0 d_Ni_copyFrom_238 rfl ?_
    refine zi_aload_n 1 d_Ni_copyFrom_239 rfl ?_
    obtain ⟨v8, ev8, h⟩ := zbind h
    refine zo_getI 243 zkd_3 14 d_Ni_copyFrom_240 ev8 rfl tw_95 rfl ?_
    obtain ⟨m9, em9, h⟩ := zbind h
    refine zo_putI 246 zkd_3 14 d_Ni_copyFrom_243 em9 rfl rfl rfl tw_95 rfl ?_
    cases h
    exact zo_ret d_Ni_copyFrom_246 (Nat.le_of_ble_eq_true rfl) (Nat.le_of_ble_eq_true rfl) rfl
  · rw [if_neg c1] at h
    refine zi_aload_n 0 d_Ni_copyFrom_196 rfl ?_
    obtain ⟨b10, eb10, h⟩ := zbind h
    refine zo_getR 200 zkd_3 10 d_Ni_copyFrom_197 eb10 rfl tw_85 rfl ?_
    refine zi_iload_n 2 d_Ni_copyFrom_200 rfl ?_
    refine zi_aload_n 1 d_Ni_copyFrom_201 rfl ?_
    obtain ⟨b11, eb11, h⟩ := zbind h
    refine zo_getR 205 zkd_3 10 d_Ni_copyFrom_202 eb11 rfl tw_85 rfl ?_
    refine zi_iload_n 2 d_Ni_copyFrom_205 rfl ?_
    obtain ⟨o12, eo12, h⟩ := zbind h
    refine zo_aald 207 d_Ni_copyFrom_206 eo12 (by decide) rfl ?_
    obtain ⟨m13, em13, h⟩ := zbind h
    refine zo_aastQ 208 d_Ni_copyFrom_207 em13 rfl ?_
    refine zi_iinc 2 (x2 + 1) [(2, .int (x2 + 1)), (0, .ref a0), (1, .ref a1)] d_Ni_copyFrom_208 rfl rfl (by decide) rfl ?_
    refine zi_goto (tgt := 190) d_Ni_copyFrom_211 rfl ?_
    refine zi_lo [(0, .ref a0), (1, .ref a1), (2, .int (x2 + 1))] [1, 2, 0] rfl ?_
    exact hr190 a0 a1 (x2 + 1) m13 h
theorem K_Ni_copyFrom_b190 (n : Nat) (E : zE) (S : zS) (a0 : Nat) (a1 : Nat) (x2 : Int32) (M : zH) (M' : zH)  (h : F_Ni_copyFrom_b190 n E S (a0, a1, x2, M) = some M') : zG E Y_Ni_copyFrom (none, S, M') 190 [(0, .ref a0), (1, .ref a1), (2, .int x2)] [] S M 0 0 := by
  have key : ∀ (k : Nat) (a0 : Nat) (a1 : Nat) (x2 : Int32) (M : zH), zfix (fun r190 s => F_Ni_copyFrom_L190 n E S r190 s.1 s.2.1 s.2.2.1 s.2.2.2) k (a0, a1, x2, M) = some M' → zG E Y_Ni_copyFrom (none, S, M') 190 [(0, .ref a0), (1, .ref a1), (2, .int x2)] [] S M 0 0 := by
    intro k
    induction k with
    | zero => intro a0 a1 x2 M h; cases h
    | succ k ih => intro a0 a1 x2 M h; exact K_Ni_copyFrom_L190 n E S _ a0 a1 x2 M M'  (fun a0 a1 x2 M h => ih a0 a1 x2 M h) h
  exact key n a0 a1 x2 M h
theorem K_Ni_copyFrom_L164 (n : Nat) (E : zE) (S : zS) (r164 : Nat × Nat × Int32 × zH → Option (zH)) (a0 : Nat) (a1 : Nat) (x2 : Int32) (M : zH) (M' : zH) (hr164 : ∀ (a0 : Nat) (a1 : Nat) (x2 : Int32) (M : zH), r164 (a0, a1, x2, M) = some M' → zG E Y_Ni_copyFrom (none, S, M') 164 [(0, .ref a0), (1, .ref a1), (2, .int x2)] [] S M 0 0) (h : F_Ni_copyFrom_L164 n E S r164 a0 a1 x2 M = some M') : zG E Y_Ni_copyFrom (none, S, M') 164 [(0, .ref a0), (1, .ref a1), (2, .int x2)] [] S M 0 0 := by
  unfold F_Ni_copyFrom_L164 at h
  refine zi_iload_n 2 d_Ni_copyFrom_164 rfl ?_
  refine zi_bipush 32 d_Ni_copyFrom_165 rfl ?_
  refine zi_icmp_ge (tgt := 188) d_Ni_copyFrom_167 rfl (fun c14 => ?_) (fun c14 => ?_)
  · rw [if_pos c14] at h
    refine zi_iconst 0 d_Ni_copyFrom_188 rfl ?_
    refine zi_istore_n [(2, .int 0), (0, .ref a0), (1, .ref a1)] d_Ni_copyFrom_189 (by decide) rfl ?_
    refine zi_lo [(0, .ref a0), (1, .ref a1), (2, .int 0)] [1, 2, 0] rfl ?_
    exact K_Ni_copyFrom_b190 n E S a0 a1 0 M M'  h
  · rw [if_neg c14] at h
    refine zi_aload_n 0 d_Ni_copyFrom_170 rfl ?_
    obtain ⟨b15, eb15, h⟩ := zbind h
    refine zo_getR 174 zkd_3 1 d_Ni_copyFrom_171 eb15 rfl tw_46 rfl ?_
    refine zi_iload_n 2 d_Ni_copyFrom_174 rfl ?_
    refine zi_aload_n 1 d_Ni_copyFrom_175 rfl ?_
    obtain ⟨b16, eb16, h⟩ := zbind h
    refine zo_getR 179 zkd_3 1 d_Ni_copyFrom_176 eb16 rfl tw_46 rfl ?_
    refine zi_iload_n 2 d_Ni_copyFrom_179 rfl ?_
    obtain ⟨v17, ev17, h⟩ := zbind h
    refine zo_zald 181 d_Ni_copyFrom_180 ev17 rfl ?_
    obtain ⟨m18, em18, h⟩ := zbind h
    refine zo_zast 182 d_Ni_copyFrom_181 em18 rfl ?_
    refine zi_iinc 2 (x2 + 1) [(2, .int (x2 + 1)), (0, .ref a0), (1, .ref a1)] d_Ni_copyFrom_182 rfl rfl (by decide) rfl ?_
    refine zi_goto (tgt := 164) d_Ni_copyFrom_185 rfl ?_
    refine zi_lo [(0, .ref a0), (1, .ref a1), (2, .int (x2 + 1))] [1, 2, 0] rfl ?_
    exact hr164 a0 a1 (x2 + 1) m18 h
theorem K_Ni_copyFrom_b164 (n : Nat) (E : zE) (S : zS) (a0 : Nat) (a1 : Nat) (x2 : Int32) (M : zH) (M' : zH)  (h : F_Ni_copyFrom_b164 n E S (a0, a1, x2, M) = some M') : zG E Y_Ni_copyFrom (none, S, M') 164 [(0, .ref a0), (1, .ref a1), (2, .int x2)] [] S M 0 0 := by
  have key : ∀ (k : Nat) (a0 : Nat) (a1 : Nat) (x2 : Int32) (M : zH), zfix (fun r164 s => F_Ni_copyFrom_L164 n E S r164 s.1 s.2.1 s.2.2.1 s.2.2.2) k (a0, a1, x2, M) = some M' → zG E Y_Ni_copyFrom (none, S, M') 164 [(0, .ref a0), (1, .ref a1), (2, .int x2)] [] S M 0 0 := by
    intro k
    induction k with
    | zero => intro a0 a1 x2 M h; cases h
    | succ k ih => intro a0 a1 x2 M h; exact K_Ni_copyFrom_L164 n E S _ a0 a1 x2 M M'  (fun a0 a1 x2 M h => ih a0 a1 x2 M h) h
  exact key n a0 a1 x2 M h
theorem K_Ni_copyFrom (n : Nat) (E : zE) (S : zS) (a0 : Nat) (a1 : Nat) (M : zH) (M' : zH)  (h : F_Ni_copyFrom n E S a0 a1 M = some M') : zG E Y_Ni_copyFrom (none, S, M') 0 [(0, .ref a0), (1, .ref a1)] [] S M 0 0 := by
  unfold F_Ni_copyFrom at h
  refine zi_aload_n 1 d_Ni_copyFrom_0 rfl ?_
  obtain ⟨b19, eb19, h⟩ := zbind h
  refine zo_getR 4 zkd_3 0 d_Ni_copyFrom_1 eb19 rfl tw_41 rfl ?_
  refine zi_iconst 0 d_Ni_copyFrom_4 rfl ?_
  refine zi_aload_n 0 d_Ni_copyFrom_5 rfl ?_
  obtain ⟨b20, eb20, h⟩ := zbind h
  refine zo_getR 9 zkd_3 0 d_Ni_copyFrom_6 eb20 rfl tw_41 rfl ?_
  refine zi_iconst 0 d_Ni_copyFrom_9 rfl ?_
  refine zi_aload_n 0 d_Ni_copyFrom_10 rfl ?_
  refine zo_getR 14 zkd_3 0 d_Ni_copyFrom_11 eb20 rfl tw_41 rfl ?_
  obtain ⟨v21, ev21, h⟩ := zbind h
  refine zo_alen 15 d_Ni_copyFrom_14 ev21 (by decide) rfl ?_
  obtain ⟨m22, em22, h⟩ := zbind h
  refine zo_cpy 18 d_Ni_copyFrom_15 em22 tw_868 zcpw rfl (by decide) (Nat.le_of_ble_eq_true rfl) ?_
  refine zi_aload_n 1 d_Ni_copyFrom_18 rfl ?_
  obtain ⟨b23, eb23, h⟩ := zbind h
  refine zo_getR 22 zkd_3 2 d_Ni_copyFrom_19 eb23 rfl tw_52 rfl ?_
  refine zi_iconst 0 d_Ni_copyFrom_22 rfl ?_
  refine zi_aload_n 0 d_Ni_copyFrom_23 rfl ?_
  obtain ⟨b24, eb24, h⟩ := zbind h
  refine zo_getR 27 zkd_3 2 d_Ni_copyFrom_24 eb24 rfl tw_52 rfl ?_
  refine zi_iconst 0 d_Ni_copyFrom_27 rfl ?_
  refine zi_aload_n 0 d_Ni_copyFrom_28 rfl ?_
  refine zo_getR 32 zkd_3 2 d_Ni_copyFrom_29 eb24 rfl tw_52 rfl ?_
  obtain ⟨v25, ev25, h⟩ := zbind h
  refine zo_alen 33 d_Ni_copyFrom_32 ev25 (by decide) rfl ?_
  obtain ⟨m26, em26, h⟩ := zbind h
  refine zo_cpy 36 d_Ni_copyFrom_33 em26 tw_868 zcpw rfl (by decide) (Nat.le_of_ble_eq_true rfl) ?_
  refine zi_aload_n 1 d_Ni_copyFrom_36 rfl ?_
  obtain ⟨b27, eb27, h⟩ := zbind h
  refine zo_getR 40 zkd_3 3 d_Ni_copyFrom_37 eb27 rfl tw_56 rfl ?_
  refine zi_iconst 0 d_Ni_copyFrom_40 rfl ?_
  refine zi_aload_n 0 d_Ni_copyFrom_41 rfl ?_
  obtain ⟨b28, eb28, h⟩ := zbind h
  refine zo_getR 45 zkd_3 3 d_Ni_copyFrom_42 eb28 rfl tw_56 rfl ?_
  refine zi_iconst 0 d_Ni_copyFrom_45 rfl ?_
  refine zi_aload_n 0 d_Ni_copyFrom_46 rfl ?_
  refine zo_getR 50 zkd_3 3 d_Ni_copyFrom_47 eb28 rfl tw_56 rfl ?_
  obtain ⟨v29, ev29, h⟩ := zbind h
  refine zo_alen 51 d_Ni_copyFrom_50 ev29 (by decide) rfl ?_
  obtain ⟨m30, em30, h⟩ := zbind h
  refine zo_cpy 54 d_Ni_copyFrom_51 em30 tw_868 zcpw rfl (by decide) (Nat.le_of_ble_eq_true rfl) ?_
  refine zi_aload_n 1 d_Ni_copyFrom_54 rfl ?_
  obtain ⟨b31, eb31, h⟩ := zbind h
  refine zo_getR 58 zkd_3 4 d_Ni_copyFrom_55 eb31 rfl tw_60 rfl ?_
  refine zi_iconst 0 d_Ni_copyFrom_58 rfl ?_
  refine zi_aload_n 0 d_Ni_copyFrom_59 rfl ?_
  obtain ⟨b32, eb32, h⟩ := zbind h
  refine zo_getR 63 zkd_3 4 d_Ni_copyFrom_60 eb32 rfl tw_60 rfl ?_
  refine zi_iconst 0 d_Ni_copyFrom_63 rfl ?_
  refine zi_aload_n 0 d_Ni_copyFrom_64 rfl ?_
  refine zo_getR 68 zkd_3 4 d_Ni_copyFrom_65 eb32 rfl tw_60 rfl ?_
  obtain ⟨v33, ev33, h⟩ := zbind h
  refine zo_alen 69 d_Ni_copyFrom_68 ev33 (by decide) rfl ?_
  obtain ⟨m34, em34, h⟩ := zbind h
  refine zo_cpy 72 d_Ni_copyFrom_69 em34 tw_868 zcpw rfl (by decide) (Nat.le_of_ble_eq_true rfl) ?_
  refine zi_aload_n 1 d_Ni_copyFrom_72 rfl ?_
  obtain ⟨b35, eb35, h⟩ := zbind h
  refine zo_getR 76 zkd_3 5 d_Ni_copyFrom_73 eb35 rfl tw_67 rfl ?_
  refine zi_iconst 0 d_Ni_copyFrom_76 rfl ?_
  refine zi_aload_n 0 d_Ni_copyFrom_77 rfl ?_
  obtain ⟨b36, eb36, h⟩ := zbind h
  refine zo_getR 81 zkd_3 5 d_Ni_copyFrom_78 eb36 rfl tw_67 rfl ?_
  refine zi_iconst 0 d_Ni_copyFrom_81 rfl ?_
  refine zi_aload_n 0 d_Ni_copyFrom_82 rfl ?_
  refine zo_getR 86 zkd_3 5 d_Ni_copyFrom_83 eb36 rfl tw_67 rfl ?_
  obtain ⟨v37, ev37, h⟩ := zbind h
  refine zo_alen 87 d_Ni_copyFrom_86 ev37 (by decide) rfl ?_
  obtain ⟨m38, em38, h⟩ := zbind h
  refine zo_cpy 90 d_Ni_copyFrom_87 em38 tw_868 zcpw rfl (by decide) (Nat.le_of_ble_eq_true rfl) ?_
  refine zi_aload_n 1 d_Ni_copyFrom_90 rfl ?_
  obtain ⟨b39, eb39, h⟩ := zbind h
  refine zo_getR 94 zkd_3 6 d_Ni_copyFrom_91 eb39 rfl tw_73 rfl ?_
  refine zi_iconst 0 d_Ni_copyFrom_94 rfl ?_
  refine zi_aload_n 0 d_Ni_copyFrom_95 rfl ?_
  obtain ⟨b40, eb40, h⟩ := zbind h
  refine zo_getR 99 zkd_3 6 d_Ni_copyFrom_96 eb40 rfl tw_73 rfl ?_
  refine zi_iconst 0 d_Ni_copyFrom_99 rfl ?_
  refine zi_aload_n 0 d_Ni_copyFrom_100 rfl ?_
  refine zo_getR 104 zkd_3 6 d_Ni_copyFrom_101 eb40 rfl tw_73 rfl ?_
  obtain ⟨v41, ev41, h⟩ := zbind h
  refine zo_alen 105 d_Ni_copyFrom_104 ev41 (by decide) rfl ?_
  obtain ⟨m42, em42, h⟩ := zbind h
  refine zo_cpy 108 d_Ni_copyFrom_105 em42 tw_868 zcpw rfl (by decide) (Nat.le_of_ble_eq_true rfl) ?_
  refine zi_aload_n 1 d_Ni_copyFrom_108 rfl ?_
  obtain ⟨b43, eb43, h⟩ := zbind h
  refine zo_getR 112 zkd_3 7 d_Ni_copyFrom_109 eb43 rfl tw_76 rfl ?_
  refine zi_iconst 0 d_Ni_copyFrom_112 rfl ?_
  refine zi_aload_n 0 d_Ni_copyFrom_113 rfl ?_
  obtain ⟨b44, eb44, h⟩ := zbind h
  refine zo_getR 117 zkd_3 7 d_Ni_copyFrom_114 eb44 rfl tw_76 rfl ?_
  refine zi_iconst 0 d_Ni_copyFrom_117 rfl ?_
  refine zi_aload_n 0 d_Ni_copyFrom_118 rfl ?_
  refine zo_getR 122 zkd_3 7 d_Ni_copyFrom_119 eb44 rfl tw_76 rfl ?_
  obtain ⟨v45, ev45, h⟩ := zbind h
  refine zo_alen 123 d_Ni_copyFrom_122 ev45 (by decide) rfl ?_
  obtain ⟨m46, em46, h⟩ := zbind h
  refine zo_cpy 126 d_Ni_copyFrom_123 em46 tw_868 zcpw rfl (by decide) (Nat.le_of_ble_eq_true rfl) ?_
  refine zi_aload_n 1 d_Ni_copyFrom_126 rfl ?_
  obtain ⟨b47, eb47, h⟩ := zbind h
  refine zo_getR 130 zkd_3 8 d_Ni_copyFrom_127 eb47 rfl tw_78 rfl ?_
  refine zi_iconst 0 d_Ni_copyFrom_130 rfl ?_
  refine zi_aload_n 0 d_Ni_copyFrom_131 rfl ?_
  obtain ⟨b48, eb48, h⟩ := zbind h
  refine zo_getR 135 zkd_3 8 d_Ni_copyFrom_132 eb48 rfl tw_78 rfl ?_
  refine zi_iconst 0 d_Ni_copyFrom_135 rfl ?_
  refine zi_aload_n 0 d_Ni_copyFrom_136 rfl ?_
  refine zo_getR 140 zkd_3 8 d_Ni_copyFrom_137 eb48 rfl tw_78 rfl ?_
  obtain ⟨v49, ev49, h⟩ := zbind h
  refine zo_alen 141 d_Ni_copyFrom_140 ev49 (by decide) rfl ?_
  obtain ⟨m50, em50, h⟩ := zbind h
  refine zo_cpy 144 d_Ni_copyFrom_141 em50 tw_868 zcpw rfl (by decide) (Nat.le_of_ble_eq_true rfl) ?_
  refine zi_aload_n 1 d_Ni_copyFrom_144 rfl ?_
  obtain ⟨b51, eb51, h⟩ := zbind h
  refine zo_getR 148 zkd_3 9 d_Ni_copyFrom_145 eb51 rfl tw_80 rfl ?_
  refine zi_iconst 0 d_Ni_copyFrom_148 rfl ?_
  refine zi_aload_n 0 d_Ni_copyFrom_149 rfl ?_
  obtain ⟨b52, eb52, h⟩ := zbind h
  refine zo_getR 153 zkd_3 9 d_Ni_copyFrom_150 eb52 rfl tw_80 rfl ?_
  refine zi_iconst 0 d_Ni_copyFrom_153 rfl ?_
  refine zi_aload_n 0 d_Ni_copyFrom_154 rfl ?_
  refine zo_getR 158 zkd_3 9 d_Ni_copyFrom_155 eb52 rfl tw_80 rfl ?_
  obtain ⟨v53, ev53, h⟩ := zbind h
  refine zo_alen 159 d_Ni_copyFrom_158 ev53 (by decide) rfl ?_
  obtain ⟨m54, em54, h⟩ := zbind h
  refine zo_cpy 162 d_Ni_copyFrom_159 em54 tw_868 zcpw rfl (by decide) (Nat.le_of_ble_eq_true rfl) ?_
  refine zi_iconst 0 d_Ni_copyFrom_162 rfl ?_
  refine zi_istore_n [(2, .int 0), (0, .ref a0), (1, .ref a1)] d_Ni_copyFrom_163 (by decide) rfl ?_
  refine zi_lo [(0, .ref a0), (1, .ref a1), (2, .int 0)] [1, 2, 0] rfl ?_
  exact K_Ni_copyFrom_b164 n E S a0 a1 0 m54 M'  h
theorem C_Ni_copyFrom (n : Nat) (E : zE) (S : zS) (a0 : Nat) (a1 : Nat) (M : zH) (M' : zH) (h : F_Ni_copyFrom n E S a0 a1 M = some M') : zC E Y_Ni_copyFrom [.ref a0, .ref a1] S M (none, S, M') :=
  zC.of (Or.inl (show plainName "NightColander$Night" = true by decide)) (Nat.le_of_ble_eq_true rfl) (trivial) (K_Ni_copyFrom n E S a0 a1 M M' h)
