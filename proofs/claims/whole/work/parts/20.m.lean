/-! METHODS (printed by gen/build.py): De_init Mc_init Ju_init Ja_fillI Ni_init Pa_init Te_init0 Ps_init Pt_init Ru_init Ta_init NC_init NC_within NC_isHole NC_isRing Mc_work -/
theorem d_De_init_0 : decode (yB Y_De_init) 0 = .ok (.aload_n 0, 1) := by decide +kernel
theorem d_De_init_1 : decode (yB Y_De_init) 1 = .ok (.invokespecial 3, 3) := by decide +kernel
theorem d_De_init_4 : decode (yB Y_De_init) 4 = .ok (.aload_n 0, 1) := by decide +kernel
theorem d_De_init_5 : decode (yB Y_De_init) 5 = .ok (.aload_n 1, 1) := by decide +kernel
theorem d_De_init_6 : decode (yB Y_De_init) 6 = .ok (.putfield 9, 3) := by decide +kernel
theorem d_De_init_9 : decode (yB Y_De_init) 9 = .ok (.return_, 1) := by decide +kernel
def F_De_init (n : Nat) (E : zE) (a0 : Nat) (a1 : Nat) (S : zS) (M : zH) : Option (zS × zH) :=
  (zpR S a0 0 0 a1).bind fun S_1 =>
  some (S_1, M)
theorem K_De_init (n : Nat) (E : zE) (a0 : Nat) (a1 : Nat) (S : zS) (M : zH) (S' : zS) (M' : zH)  (h : F_De_init n E a0 a1 S M = some (S', M')) : zG E Y_De_init (none, S', M') 0 [(0, .ref a0), (1, .ref a1)] [] S M 0 0 := by
  unfold F_De_init at h
  refine zi_aload_n 0 d_De_init_0 rfl ?_
  refine zi_objInit d_De_init_1 tw_257 tw_28 zobj (by decide) (Nat.le_of_ble_eq_true rfl) ?_
  refine zi_aload_n 0 d_De_init_4 rfl ?_
  refine zi_aload_n 1 d_De_init_5 rfl ?_
  obtain ⟨S_1, eS_1, h⟩ := zbind h
  refine zo_putR 9 zkd_0 0 d_De_init_6 eS_1 rfl rfl rfl rfl ⟨rfl, rfl⟩ tw_258 rfl ?_
  cases h
  exact zo_ret d_De_init_9 (Nat.le_of_ble_eq_true rfl) (Nat.le_of_ble_eq_true rfl) rfl
theorem C_De_init (n : Nat) (E : zE) (a0 : Nat) (a1 : Nat) (S : zS) (M : zH) (S' : zS) (M' : zH) (h : F_De_init n E a0 a1 S M = some (S', M')) : zC E Y_De_init [.ref a0, .ref a1] S M (none, S', M') :=
  zC.of (Or.inl (show plainName "NightColander$Deeds" = true by decide)) (Nat.le_of_ble_eq_true rfl) (trivial) (K_De_init n E a0 a1 S M S' M' h)
theorem d_Mc_init_0 : decode (yB Y_Mc_init) 0 = .ok (.aload_n 0, 1) := by decide +kernel
theorem d_Mc_init_1 : decode (yB Y_Mc_init) 1 = .ok (.invokespecial 3, 3) := by decide +kernel
theorem d_Mc_init_4 : decode (yB Y_Mc_init) 4 = .ok (.aload_n 0, 1) := by decide +kernel
theorem d_Mc_init_5 : decode (yB Y_Mc_init) 5 = .ok (.bipush 64, 2) := by decide +kernel
theorem d_Mc_init_7 : decode (yB Y_Mc_init) 7 = .ok (.newarray .int, 2) := by decide +kernel
theorem d_Mc_init_9 : decode (yB Y_Mc_init) 9 = .ok (.putfield 9, 3) := by decide +kernel
theorem d_Mc_init_12 : decode (yB Y_Mc_init) 12 = .ok (.return_, 1) := by decide +kernel
def F_Mc_init (n : Nat) (E : zE) (a0 : Nat) (S : zS) (M : zH) : Option (zS × zH) :=
  (zmkA S M 12 64 64).bind fun q_1 =>
  (zpR q_1.2.1 a0 2 0 q_1.1).bind fun S_2 =>
  some (S_2, q_1.2.2)
theorem K_Mc_init (n : Nat) (E : zE) (a0 : Nat) (S : zS) (M : zH) (S' : zS) (M' : zH)  (h : F_Mc_init n E a0 S M = some (S', M')) : zG E Y_Mc_init (none, S', M') 0 [(0, .ref a0)] [] S M 0 0 := by
  unfold F_Mc_init at h
  refine zi_aload_n 0 d_Mc_init_0 rfl ?_
  refine zi_objInit d_Mc_init_1 tw_240 tw_28 zobj (by decide) (Nat.le_of_ble_eq_true rfl) ?_
  refine zi_aload_n 0 d_Mc_init_4 rfl ?_
  refine zi_bipush 64 d_Mc_init_5 rfl ?_
  obtain ⟨q_1, eq_1, h⟩ := zbind h
  refine zo_newarr (pos := 0) 9 d_Mc_init_7 eq_1 (by decide) rfl rfl (by decide) tw_129 (Nat.le_of_ble_eq_true rfl) (Nat.le_of_ble_eq_true rfl) rfl rfl rfl ?_
  obtain ⟨S_2, eS_2, h⟩ := zbind h
  refine zo_putR 12 zkd_2 0 d_Mc_init_9 eS_2 rfl rfl rfl rfl ⟨rfl, rfl⟩ tw_241 rfl ?_
  cases h
  exact zo_ret d_Mc_init_12 (Nat.le_of_ble_eq_true rfl) (Nat.le_of_ble_eq_true rfl) rfl
theorem C_Mc_init (n : Nat) (E : zE) (a0 : Nat) (S : zS) (M : zH) (S' : zS) (M' : zH) (h : F_Mc_init n E a0 S M = some (S', M')) : zC E Y_Mc_init [.ref a0] S M (none, S', M') :=
  zC.of (Or.inl (show plainName "NightColander$Machine" = true by decide)) (Nat.le_of_ble_eq_true rfl) (trivial) (K_Mc_init n E a0 S M S' M' h)
theorem d_Ju_init_0 : decode (yB Y_Ju_init) 0 = .ok (.aload_n 0, 1) := by decide +kernel
theorem d_Ju_init_1 : decode (yB Y_Ju_init) 1 = .ok (.invokespecial 3, 3) := by decide +kernel
theorem d_Ju_init_4 : decode (yB Y_Ju_init) 4 = .ok (.aload_n 0, 1) := by decide +kernel
theorem d_Ju_init_5 : decode (yB Y_Ju_init) 5 = .ok (.new 9, 3) := by decide +kernel
theorem d_Ju_init_8 : decode (yB Y_Ju_init) 8 = .ok (.dup, 1) := by decide +kernel
theorem d_Ju_init_9 : decode (yB Y_Ju_init) 9 = .ok (.invokespecial 11, 3) := by decide +kernel
theorem d_Ju_init_12 : decode (yB Y_Ju_init) 12 = .ok (.putfield 12, 3) := by decide +kernel
theorem d_Ju_init_15 : decode (yB Y_Ju_init) 15 = .ok (.aload_n 0, 1) := by decide +kernel
theorem d_Ju_init_16 : decode (yB Y_Ju_init) 16 = .ok (.bipush 9, 2) := by decide +kernel
theorem d_Ju_init_18 : decode (yB Y_Ju_init) 18 = .ok (.newarray .int, 2) := by decide +kernel
theorem d_Ju_init_20 : decode (yB Y_Ju_init) 20 = .ok (.putfield 18, 3) := by decide +kernel
theorem d_Ju_init_23 : decode (yB Y_Ju_init) 23 = .ok (.return_, 1) := by decide +kernel
def F_Ju_init (n : Nat) (E : zE) (a0 : Nat) (S : zS) (M : zH) : Option (zS × zH) :=
  (zmkO S M 2).bind fun q_1 =>
  (F_Mc_init n E q_1.1 q_1.2.1 q_1.2.2).bind fun q_2 =>
  (zpR q_2.1 a0 1 0 q_1.1).bind fun S_3 =>
  (zmkA S_3 q_2.2 12 9 9).bind fun q_4 =>
  (zpR q_4.2.1 a0 1 1 q_4.1).bind fun S_5 =>
  some (S_5, q_4.2.2)
theorem K_Ju_init (n : Nat) (E : zE) (a0 : Nat) (S : zS) (M : zH) (S' : zS) (M' : zH)  (h : F_Ju_init n E a0 S M = some (S', M')) : zG E Y_Ju_init (none, S', M') 0 [(0, .ref a0)] [] S M 0 0 := by
  unfold F_Ju_init at h
  refine zi_aload_n 0 d_Ju_init_0 rfl ?_
  refine zi_objInit d_Ju_init_1 tw_234 tw_28 zobj (by decide) (Nat.le_of_ble_eq_true rfl) ?_
  refine zi_aload_n 0 d_Ju_init_4 rfl ?_
  obtain ⟨q_1, eq_1, h⟩ := zbind h
  refine zo_new 8 zkd_2 d_Ju_init_5 eq_1 tw_235 tw_236 tw_9 (by decide) (Nat.le_of_ble_eq_true rfl) (Nat.le_of_ble_eq_true rfl) rfl rfl rfl ?_
  refine zi_dup d_Ju_init_8 rfl ?_
  obtain ⟨q_2, eq_2, h⟩ := zbind h
  refine zo_initN (k' := 2) (n' := 65) 12 [] [.ref q_1.1, .ref a0] (C_Mc_init n E q_1.1 q_1.2.1 q_1.2.2 q_2.1 q_2.2 eq_2) d_Ju_init_9 rfl rfl tw_239 (List.mem_of_getElem? (i := 3) rfl) tw_238 tw_9 dd_Mc_init ⟨Nat.le_of_ble_eq_true rfl, Nat.le_of_ble_eq_true rfl, Nat.le_of_ble_eq_true rfl, Nat.le_of_ble_eq_true rfl⟩ (Nat.le_of_ble_eq_true rfl) rfl rfl rfl ?_
  obtain ⟨S_3, eS_3, h⟩ := zbind h
  refine zo_putR 15 zkd_1 0 d_Ju_init_12 eS_3 rfl rfl rfl rfl ⟨rfl, rfl⟩ tw_245 rfl ?_
  refine zi_aload_n 0 d_Ju_init_15 rfl ?_
  refine zi_bipush 9 d_Ju_init_16 rfl ?_
  obtain ⟨q_4, eq_4, h⟩ := zbind h
  refine zo_newarr (pos := 0) 20 d_Ju_init_18 eq_4 (by decide) rfl rfl (by decide) tw_129 (Nat.le_of_ble_eq_true rfl) (Nat.le_of_ble_eq_true rfl) rfl rfl rfl ?_
  obtain ⟨S_5, eS_5, h⟩ := zbind h
  refine zo_putR 23 zkd_1 1 d_Ju_init_20 eS_5 rfl rfl rfl rfl ⟨rfl, rfl⟩ tw_246 rfl ?_
  cases h
  exact zo_ret d_Ju_init_23 (Nat.le_of_ble_eq_true rfl) (Nat.le_of_ble_eq_true rfl) rfl
theorem C_Ju_init (n : Nat) (E : zE) (a0 : Nat) (S : zS) (M : zH) (S' : zS) (M' : zH) (h : F_Ju_init n E a0 S M = some (S', M')) : zC E Y_Ju_init [.ref a0] S M (none, S', M') :=
  zC.of (Or.inl (show plainName "NightColander$Judge" = true by decide)) (Nat.le_of_ble_eq_true rfl) (trivial) (K_Ju_init n E a0 S M S' M' h)
theorem d_Ja_fillI_0 : decode (yB Y_Ja_fillI) 0 = .ok (.iconst 0, 1) := by decide +kernel
theorem d_Ja_fillI_1 : decode (yB Y_Ja_fillI) 1 = .ok (.istore_n 2, 1) := by decide +kernel
theorem d_Ja_fillI_2 : decode (yB Y_Ja_fillI) 2 = .ok (.aload_n 0, 1) := by decide +kernel
theorem d_Ja_fillI_3 : decode (yB Y_Ja_fillI) 3 = .ok (.arraylength, 1) := by decide +kernel
theorem d_Ja_fillI_4 : decode (yB Y_Ja_fillI) 4 = .ok (.istore_n 3, 1) := by decide +kernel
theorem d_Ja_fillI_5 : decode (yB Y_Ja_fillI) 5 = .ok (.iload_n 2, 1) := by decide +kernel
theorem d_Ja_fillI_6 : decode (yB Y_Ja_fillI) 6 = .ok (.iload_n 3, 1) := by decide +kernel
theorem d_Ja_fillI_7 : decode (yB Y_Ja_fillI) 7 = .ok (.if_icmp .ge 13, 3) := by decide +kernel
theorem d_Ja_fillI_10 : decode (yB Y_Ja_fillI) 10 = .ok (.aload_n 0, 1) := by decide +kernel
theorem d_Ja_fillI_11 : decode (yB Y_Ja_fillI) 11 = .ok (.iload_n 2, 1) := by decide +kernel
theorem d_Ja_fillI_12 : decode (yB Y_Ja_fillI) 12 = .ok (.iload_n 1, 1) := by decide +kernel
theorem d_Ja_fillI_13 : decode (yB Y_Ja_fillI) 13 = .ok (.iastore, 1) := by decide +kernel
theorem d_Ja_fillI_14 : decode (yB Y_Ja_fillI) 14 = .ok (.iinc 2 1, 3) := by decide +kernel
theorem d_Ja_fillI_17 : decode (yB Y_Ja_fillI) 17 = .ok (.goto (-12), 3) := by decide +kernel
theorem d_Ja_fillI_20 : decode (yB Y_Ja_fillI) 20 = .ok (.return_, 1) := by decide +kernel
def F_Ja_fillI_L5 (n : Nat) (E : zE) (S : zS) (r5 : Nat × Int32 × Int32 × Int32 × zH → Option (zH)) (a0 : Nat) (x1 : Int32) (x2 : Int32) (x3 : Int32) (M : zH) : Option (zH) :=
  if x3 ≤ x2 then
    some (M)
  else
    (zstI S M a0 x2 x1).bind fun m_2 =>
    r5 (a0, x1, x2 + 1, x3, m_2)
def F_Ja_fillI_b5 (n : Nat) (E : zE) (S : zS) : Nat × Int32 × Int32 × Int32 × zH → Option (zH) := zfix (fun r5 s => F_Ja_fillI_L5 n E S r5 s.1 s.2.1 s.2.2.1 s.2.2.2.1 s.2.2.2.2) n
def F_Ja_fillI (n : Nat) (E : zE) (S : zS) (a0 : Nat) (x1 : Int32) (M : zH) : Option (zH) :=
  (zlen S 12 a0).bind fun v_3 =>
  F_Ja_fillI_b5 n E S (a0, x1, 0, v_3, M)
theorem K_Ja_fillI_L5 (n : Nat) (E : zE) (S : zS) (r5 : Nat × Int32 × Int32 × Int32 × zH → Option (zH)) (a0 : Nat) (x1 : Int32) (x2 : Int32) (x3 : Int32) (M : zH) (M' : zH) (hr5 : ∀ (a0 : Nat) (x1 : Int32) (x2 : Int32) (x3 : Int32) (M : zH), r5 (a0, x1, x2, x3, M) = some M' → zG E Y_Ja_fillI (none, S, M') 5 [(0, .ref a0), (1, .int x1), (2, .int x2), (3, .int x3)] [] S M 0 0) (h : F_Ja_fillI_L5 n E S r5 a0 x1 x2 x3 M = some M') : zG E Y_Ja_fillI (none, S, M') 5 [(0, .ref a0), (1, .int x1), (2, .int x2), (3, .int x3)] [] S M 0 0 := by
  unfold F_Ja_fillI_L5 at h
  refine zi_iload_n 2 d_Ja_fillI_5 rfl ?_
  refine zi_iload_n 3 d_Ja_fillI_6 rfl ?_
  refine zi_icmp_ge (tgt := 20) d_Ja_fillI_7 rfl (fun c_1 => ?_) (fun c_1 => ?_)
  · rw [if_pos c_1] at h
    cases h
    exact zo_ret d_Ja_fillI_20 (Nat.le_of_ble_eq_true rfl) (Nat.le_of_ble_eq_true rfl) rfl
  · rw [if_neg c_1] at h
    refine zi_aload_n 0 d_Ja_fillI_10 rfl ?_
    refine zi_iload_n 2 d_Ja_fillI_11 rfl ?_
    refine zi_iload_n 1 d_Ja_fillI_12 rfl ?_
    obtain ⟨m_2, em_2, h⟩ := zbind h
    refine zo_iast 14 d_Ja_fillI_13 em_2 rfl ?_
    refine zi_iinc 2 (x2 + 1) [(2, .int (x2 + 1)), (0, .ref a0), (1, .int x1), (3, .int x3)] d_Ja_fillI_14 rfl rfl (by decide) rfl ?_
    refine zi_goto (tgt := 5) d_Ja_fillI_17 rfl ?_
    refine zi_lo [(0, .ref a0), (1, .int x1), (2, .int (x2 + 1)), (3, .int x3)] [1, 2, 0, 3] rfl ?_
    exact hr5 a0 x1 (x2 + 1) x3 m_2 h
theorem K_Ja_fillI_b5 (n : Nat) (E : zE) (S : zS) (a0 : Nat) (x1 : Int32) (x2 : Int32) (x3 : Int32) (M : zH) (M' : zH)  (h : F_Ja_fillI_b5 n E S (a0, x1, x2, x3, M) = some M') : zG E Y_Ja_fillI (none, S, M') 5 [(0, .ref a0), (1, .int x1), (2, .int x2), (3, .int x3)] [] S M 0 0 := by
  have key : ∀ (k : Nat) (a0 : Nat) (x1 : Int32) (x2 : Int32) (x3 : Int32) (M : zH), zfix (fun r5 s => F_Ja_fillI_L5 n E S r5 s.1 s.2.1 s.2.2.1 s.2.2.2.1 s.2.2.2.2) k (a0, x1, x2, x3, M) = some M' → zG E Y_Ja_fillI (none, S, M') 5 [(0, .ref a0), (1, .int x1), (2, .int x2), (3, .int x3)] [] S M 0 0 := by
    intro k
    induction k with
    | zero => intro a0 x1 x2 x3 M h; cases h
    | succ k ih => intro a0 x1 x2 x3 M h; exact K_Ja_fillI_L5 n E S _ a0 x1 x2 x3 M M'  (fun a0 x1 x2 x3 M h => ih a0 x1 x2 x3 M h) h
  exact key n a0 x1 x2 x3 M h
theorem K_Ja_fillI (n : Nat) (E : zE) (S : zS) (a0 : Nat) (x1 : Int32) (M : zH) (M' : zH)  (h : F_Ja_fillI n E S a0 x1 M = some M') : zG E Y_Ja_fillI (none, S, M') 0 [(0, .ref a0), (1, .int x1)] [] S M 0 0 := by
  unfold F_Ja_fillI at h
  refine zi_iconst 0 d_Ja_fillI_0 rfl ?_
  refine zi_istore_n [(2, .int 0), (0, .ref a0), (1, .int x1)] d_Ja_fillI_1 (by decide) rfl ?_
  refine zi_aload_n 1 d_Ja_fillI_2 rfl ?_
  obtain ⟨v_3, ev_3, h⟩ := zbind h
  refine zo_alen 4 d_Ja_fillI_3 ev_3 (by decide) rfl ?_
  refine zi_istore_n [(3, .int v_3), (2, .int 0), (0, .ref a0), (1, .int x1)] d_Ja_fillI_4 (by decide) rfl ?_
  refine zi_lo [(0, .ref a0), (1, .int x1), (2, .int 0), (3, .int v_3)] [2, 3, 1, 0] rfl ?_
  exact K_Ja_fillI_b5 n E S a0 x1 0 v_3 M M'  h
theorem C_Ja_fillI (n : Nat) (E : zE) (S : zS) (a0 : Nat) (x1 : Int32) (M : zH) (M' : zH) (h : F_Ja_fillI n E S a0 x1 M = some M') : zC E Y_Ja_fillI [.ref a0, .int x1] S M (none, S, M') :=
  zC.of (Or.inl (show plainName "java/util/Arrays" = true by decide)) (Nat.le_of_ble_eq_true rfl) (trivial) (K_Ja_fillI n E S a0 x1 M M' h)
theorem d_Ni_init_0 : decode (yB Y_Ni_init) 0 = .ok (.aload_n 0, 1) := by decide +kernel
theorem d_Ni_init_1 : decode (yB Y_Ni_init) 1 = .ok (.invokespecial 3, 3) := by decide +kernel
theorem d_Ni_init_4 : decode (yB Y_Ni_init) 4 = .ok (.aload_n 0, 1) := by decide +kernel
theorem d_Ni_init_5 : decode (yB Y_Ni_init) 5 = .ok (.bipush 32, 2) := by decide +kernel
theorem d_Ni_init_7 : decode (yB Y_Ni_init) 7 = .ok (.newarray .int, 2) := by decide +kernel
theorem d_Ni_init_9 : decode (yB Y_Ni_init) 9 = .ok (.putfield 9, 3) := by decide +kernel
theorem d_Ni_init_12 : decode (yB Y_Ni_init) 12 = .ok (.aload_n 0, 1) := by decide +kernel
theorem d_Ni_init_13 : decode (yB Y_Ni_init) 13 = .ok (.bipush 32, 2) := by decide +kernel
theorem d_Ni_init_15 : decode (yB Y_Ni_init) 15 = .ok (.newarray .boolean, 2) := by decide +kernel
theorem d_Ni_init_17 : decode (yB Y_Ni_init) 17 = .ok (.putfield 15, 3) := by decide +kernel
theorem d_Ni_init_20 : decode (yB Y_Ni_init) 20 = .ok (.aload_n 0, 1) := by decide +kernel
theorem d_Ni_init_21 : decode (yB Y_Ni_init) 21 = .ok (.iconst 4, 1) := by decide +kernel
theorem d_Ni_init_22 : decode (yB Y_Ni_init) 22 = .ok (.newarray .int, 2) := by decide +kernel
theorem d_Ni_init_24 : decode (yB Y_Ni_init) 24 = .ok (.putfield 19, 3) := by decide +kernel
theorem d_Ni_init_27 : decode (yB Y_Ni_init) 27 = .ok (.aload_n 0, 1) := by decide +kernel
theorem d_Ni_init_28 : decode (yB Y_Ni_init) 28 = .ok (.iconst 3, 1) := by decide +kernel
theorem d_Ni_init_29 : decode (yB Y_Ni_init) 29 = .ok (.newarray .int, 2) := by decide +kernel
theorem d_Ni_init_31 : decode (yB Y_Ni_init) 31 = .ok (.putfield 22, 3) := by decide +kernel
theorem d_Ni_init_34 : decode (yB Y_Ni_init) 34 = .ok (.aload_n 0, 1) := by decide +kernel
theorem d_Ni_init_35 : decode (yB Y_Ni_init) 35 = .ok (.iconst 3, 1) := by decide +kernel
theorem d_Ni_init_36 : decode (yB Y_Ni_init) 36 = .ok (.newarray .int, 2) := by decide +kernel
theorem d_Ni_init_38 : decode (yB Y_Ni_init) 38 = .ok (.putfield 25, 3) := by decide +kernel
theorem d_Ni_init_41 : decode (yB Y_Ni_init) 41 = .ok (.aload_n 0, 1) := by decide +kernel
theorem d_Ni_init_42 : decode (yB Y_Ni_init) 42 = .ok (.iconst 3, 1) := by decide +kernel
theorem d_Ni_init_43 : decode (yB Y_Ni_init) 43 = .ok (.newarray .int, 2) := by decide +kernel
theorem d_Ni_init_45 : decode (yB Y_Ni_init) 45 = .ok (.putfield 28, 3) := by decide +kernel
theorem d_Ni_init_48 : decode (yB Y_Ni_init) 48 = .ok (.aload_n 0, 1) := by decide +kernel
theorem d_Ni_init_49 : decode (yB Y_Ni_init) 49 = .ok (.bipush 8, 2) := by decide +kernel
theorem d_Ni_init_51 : decode (yB Y_Ni_init) 51 = .ok (.newarray .int, 2) := by decide +kernel
theorem d_Ni_init_53 : decode (yB Y_Ni_init) 53 = .ok (.putfield 31, 3) := by decide +kernel
theorem d_Ni_init_56 : decode (yB Y_Ni_init) 56 = .ok (.aload_n 0, 1) := by decide +kernel
theorem d_Ni_init_57 : decode (yB Y_Ni_init) 57 = .ok (.bipush 6, 2) := by decide +kernel
theorem d_Ni_init_59 : decode (yB Y_Ni_init) 59 = .ok (.newarray .int, 2) := by decide +kernel
theorem d_Ni_init_61 : decode (yB Y_Ni_init) 61 = .ok (.putfield 34, 3) := by decide +kernel
theorem d_Ni_init_64 : decode (yB Y_Ni_init) 64 = .ok (.aload_n 0, 1) := by decide +kernel
theorem d_Ni_init_65 : decode (yB Y_Ni_init) 65 = .ok (.bipush 6, 2) := by decide +kernel
theorem d_Ni_init_67 : decode (yB Y_Ni_init) 67 = .ok (.newarray .int, 2) := by decide +kernel
theorem d_Ni_init_69 : decode (yB Y_Ni_init) 69 = .ok (.putfield 37, 3) := by decide +kernel
theorem d_Ni_init_72 : decode (yB Y_Ni_init) 72 = .ok (.aload_n 0, 1) := by decide +kernel
theorem d_Ni_init_73 : decode (yB Y_Ni_init) 73 = .ok (.iconst 4, 1) := by decide +kernel
theorem d_Ni_init_74 : decode (yB Y_Ni_init) 74 = .ok (.newarray .int, 2) := by decide +kernel
theorem d_Ni_init_76 : decode (yB Y_Ni_init) 76 = .ok (.putfield 40, 3) := by decide +kernel
theorem d_Ni_init_79 : decode (yB Y_Ni_init) 79 = .ok (.aload_n 0, 1) := by decide +kernel
theorem d_Ni_init_80 : decode (yB Y_Ni_init) 80 = .ok (.bipush 6, 2) := by decide +kernel
theorem d_Ni_init_82 : decode (yB Y_Ni_init) 82 = .ok (.anewarray 43, 3) := by decide +kernel
theorem d_Ni_init_85 : decode (yB Y_Ni_init) 85 = .ok (.putfield 45, 3) := by decide +kernel
theorem d_Ni_init_88 : decode (yB Y_Ni_init) 88 = .ok (.aload_n 0, 1) := by decide +kernel
theorem d_Ni_init_89 : decode (yB Y_Ni_init) 89 = .ok (.iconst 0, 1) := by decide +kernel
theorem d_Ni_init_90 : decode (yB Y_Ni_init) 90 = .ok (.putfield 49, 3) := by decide +kernel
theorem d_Ni_init_93 : decode (yB Y_Ni_init) 93 = .ok (.aload_n 0, 1) := by decide +kernel
theorem d_Ni_init_94 : decode (yB Y_Ni_init) 94 = .ok (.iconst 0, 1) := by decide +kernel
theorem d_Ni_init_95 : decode (yB Y_Ni_init) 95 = .ok (.putfield 53, 3) := by decide +kernel
theorem d_Ni_init_98 : decode (yB Y_Ni_init) 98 = .ok (.aload_n 0, 1) := by decide +kernel
theorem d_Ni_init_99 : decode (yB Y_Ni_init) 99 = .ok (.iconst 0, 1) := by decide +kernel
theorem d_Ni_init_100 : decode (yB Y_Ni_init) 100 = .ok (.putfield 56, 3) := by decide +kernel
theorem d_Ni_init_103 : decode (yB Y_Ni_init) 103 = .ok (.aload_n 0, 1) := by decide +kernel
theorem d_Ni_init_104 : decode (yB Y_Ni_init) 104 = .ok (.iconst (-1), 1) := by decide +kernel
theorem d_Ni_init_105 : decode (yB Y_Ni_init) 105 = .ok (.putfield 59, 3) := by decide +kernel
theorem d_Ni_init_108 : decode (yB Y_Ni_init) 108 = .ok (.aload_n 0, 1) := by decide +kernel
theorem d_Ni_init_109 : decode (yB Y_Ni_init) 109 = .ok (.getfield 9, 3) := by decide +kernel
theorem d_Ni_init_112 : decode (yB Y_Ni_init) 112 = .ok (.iconst 1, 1) := by decide +kernel
theorem d_Ni_init_113 : decode (yB Y_Ni_init) 113 = .ok (.invokestatic 62, 3) := by decide +kernel
theorem d_Ni_init_116 : decode (yB Y_Ni_init) 116 = .ok (.aload_n 0, 1) := by decide +kernel
theorem d_Ni_init_117 : decode (yB Y_Ni_init) 117 = .ok (.getfield 31, 3) := by decide +kernel
theorem d_Ni_init_120 : decode (yB Y_Ni_init) 120 = .ok (.iconst (-1), 1) := by decide +kernel
theorem d_Ni_init_121 : decode (yB Y_Ni_init) 121 = .ok (.invokestatic 62, 3) := by decide +kernel
theorem d_Ni_init_124 : decode (yB Y_Ni_init) 124 = .ok (.aload_n 0, 1) := by decide +kernel
theorem d_Ni_init_125 : decode (yB Y_Ni_init) 125 = .ok (.getfield 40, 3) := by decide +kernel
theorem d_Ni_init_128 : decode (yB Y_Ni_init) 128 = .ok (.iconst 1, 1) := by decide +kernel
theorem d_Ni_init_129 : decode (yB Y_Ni_init) 129 = .ok (.iconst 3, 1) := by decide +kernel
theorem d_Ni_init_130 : decode (yB Y_Ni_init) 130 = .ok (.iastore, 1) := by decide +kernel
theorem d_Ni_init_131 : decode (yB Y_Ni_init) 131 = .ok (.aload_n 0, 1) := by decide +kernel
theorem d_Ni_init_132 : decode (yB Y_Ni_init) 132 = .ok (.getfield 40, 3) := by decide +kernel
theorem d_Ni_init_135 : decode (yB Y_Ni_init) 135 = .ok (.iconst 3, 1) := by decide +kernel
theorem d_Ni_init_136 : decode (yB Y_Ni_init) 136 = .ok (.iconst 1, 1) := by decide +kernel
theorem d_Ni_init_137 : decode (yB Y_Ni_init) 137 = .ok (.iastore, 1) := by decide +kernel
theorem d_Ni_init_138 : decode (yB Y_Ni_init) 138 = .ok (.return_, 1) := by decide +kernel
def F_Ni_init (n : Nat) (E : zE) (a0 : Nat) (S : zS) (M : zH) : Option (zS × zH) :=
  (zmkA S M 12 32 32).bind fun q_1 =>
  (zpR q_1.2.1 a0 3 0 q_1.1).bind fun S_2 =>
  (zmkA S_2 q_1.2.2 13 32 32).bind fun q_3 =>
  (zpR q_3.2.1 a0 3 1 q_3.1).bind fun S_4 =>
  (zmkA S_4 q_3.2.2 12 4 4).bind fun q_5 =>
  (zpR q_5.2.1 a0 3 2 q_5.1).bind fun S_6 =>
  (zmkA S_6 q_5.2.2 12 3 3).bind fun q_7 =>
  (zpR q_7.2.1 a0 3 3 q_7.1).bind fun S_8 =>
  (zmkA S_8 q_7.2.2 12 3 3).bind fun q_9 =>
  (zpR q_9.2.1 a0 3 4 q_9.1).bind fun S_10 =>
  (zmkA S_10 q_9.2.2 12 3 3).bind fun q_11 =>
  (zpR q_11.2.1 a0 3 5 q_11.1).bind fun S_12 =>
  (zmkA S_12 q_11.2.2 12 8 8).bind fun q_13 =>
  (zpR q_13.2.1 a0 3 6 q_13.1).bind fun S_14 =>
  (zmkA S_14 q_13.2.2 12 6 6).bind fun q_15 =>
  (zpR q_15.2.1 a0 3 7 q_15.1).bind fun S_16 =>
  (zmkA S_16 q_15.2.2 12 6 6).bind fun q_17 =>
  (zpR q_17.2.1 a0 3 8 q_17.1).bind fun S_18 =>
  (zmkA S_18 q_17.2.2 12 4 4).bind fun q_19 =>
  (zpR q_19.2.1 a0 3 9 q_19.1).bind fun S_20 =>
  (zmkA S_20 q_19.2.2 16 6 6).bind fun q_21 =>
  (zpR q_21.2.1 a0 3 10 q_21.1).bind fun S_22 =>
  (zpI S_22 q_21.2.2 a0 3 11 0).bind fun m_23 =>
  (zpI S_22 m_23 a0 3 12 0).bind fun m_24 =>
  (zpI S_22 m_24 a0 3 13 0).bind fun m_25 =>
  (zpI S_22 m_25 a0 3 14 (-1)).bind fun m_26 =>
  (zgR S_22 a0 3 0).bind fun b_27 =>
  (F_Ja_fillI n E S_22 b_27 1 m_26).bind fun q_28 =>
  (zgR S_22 a0 3 6).bind fun b_29 =>
  (F_Ja_fillI n E S_22 b_29 (-1) q_28).bind fun q_30 =>
  (zgR S_22 a0 3 9).bind fun b_31 =>
  (zstI S_22 q_30 b_31 1 3).bind fun m_32 =>
  (zstI S_22 m_32 b_31 3 1).bind fun m_33 =>
  some (S_22, m_33)
theorem K_Ni_init (n : Nat) (E : zE) (a0 : Nat) (S : zS) (M : zH) (S' : zS) (M' : zH)  (h : F_Ni_init n E a0 S M = some (S', M')) : zG E Y_Ni_init (none, S', M') 0 [(0, .ref a0)] [] S M 0 0 := by
  unfold F_Ni_init at h
  refine zi_aload_n 0 d_Ni_init_0 rfl ?_
  refine zi_objInit d_Ni_init_1 tw_35 tw_28 zobj (by decide) (Nat.le_of_ble_eq_true rfl) ?_
  refine zi_aload_n 0 d_Ni_init_4 rfl ?_
  refine zi_bipush 32 d_Ni_init_5 rfl ?_
  obtain ⟨q_1, eq_1, h⟩ := zbind h
  refine zo_newarr (pos := 0) 9 d_Ni_init_7 eq_1 (by decide) rfl rfl (by decide) tw_129 (Nat.le_of_ble_eq_true rfl) (Nat.le_of_ble_eq_true rfl) rfl rfl rfl ?_
  obtain ⟨S_2, eS_2, h⟩ := zbind h
  refine zo_putR 12 zkd_3 0 d_Ni_init_9 eS_2 rfl rfl rfl rfl ⟨rfl, rfl⟩ tw_41 rfl ?_
  refine zi_aload_n 0 d_Ni_init_12 rfl ?_
  refine zi_bipush 32 d_Ni_init_13 rfl ?_
  obtain ⟨q_3, eq_3, h⟩ := zbind h
  refine zo_newarr (pos := 1) 17 d_Ni_init_15 eq_3 (by decide) rfl rfl (by decide) tw_130 (Nat.le_of_ble_eq_true rfl) (Nat.le_of_ble_eq_true rfl) rfl rfl rfl ?_
  obtain ⟨S_4, eS_4, h⟩ := zbind h
  refine zo_putR 20 zkd_3 1 d_Ni_init_17 eS_4 rfl rfl rfl rfl ⟨rfl, rfl⟩ tw_46 rfl ?_
  refine zi_aload_n 0 d_Ni_init_20 rfl ?_
  refine zi_iconst 4 d_Ni_init_21 rfl ?_
  obtain ⟨q_5, eq_5, h⟩ := zbind h
  refine zo_newarr (pos := 0) 24 d_Ni_init_22 eq_5 (by decide) rfl rfl (by decide) tw_129 (Nat.le_of_ble_eq_true rfl) (Nat.le_of_ble_eq_true rfl) rfl rfl rfl ?_
  obtain ⟨S_6, eS_6, h⟩ := zbind h
  refine zo_putR 27 zkd_3 2 d_Ni_init_24 eS_6 rfl rfl rfl rfl ⟨rfl, rfl⟩ tw_52 rfl ?_
  refine zi_aload_n 0 d_Ni_init_27 rfl ?_
  refine zi_iconst 3 d_Ni_init_28 rfl ?_
  obtain ⟨q_7, eq_7, h⟩ := zbind h
  refine zo_newarr (pos := 0) 31 d_Ni_init_29 eq_7 (by decide) rfl rfl (by decide) tw_129 (Nat.le_of_ble_eq_true rfl) (Nat.le_of_ble_eq_true rfl) rfl rfl rfl ?_
  obtain ⟨S_8, eS_8, h⟩ := zbind h
  refine zo_putR 34 zkd_3 3 d_Ni_init_31 eS_8 rfl rfl rfl rfl ⟨rfl, rfl⟩ tw_56 rfl ?_
  refine zi_aload_n 0 d_Ni_init_34 rfl ?_
  refine zi_iconst 3 d_Ni_init_35 rfl ?_
  obtain ⟨q_9, eq_9, h⟩ := zbind h
  refine zo_newarr (pos := 0) 38 d_Ni_init_36 eq_9 (by decide) rfl rfl (by decide) tw_129 (Nat.le_of_ble_eq_true rfl) (Nat.le_of_ble_eq_true rfl) rfl rfl rfl ?_
  obtain ⟨S_10, eS_10, h⟩ := zbind h
  refine zo_putR 41 zkd_3 4 d_Ni_init_38 eS_10 rfl rfl rfl rfl ⟨rfl, rfl⟩ tw_60 rfl ?_
  refine zi_aload_n 0 d_Ni_init_41 rfl ?_
  refine zi_iconst 3 d_Ni_init_42 rfl ?_
  obtain ⟨q_11, eq_11, h⟩ := zbind h
  refine zo_newarr (pos := 0) 45 d_Ni_init_43 eq_11 (by decide) rfl rfl (by decide) tw_129 (Nat.le_of_ble_eq_true rfl) (Nat.le_of_ble_eq_true rfl) rfl rfl rfl ?_
  obtain ⟨S_12, eS_12, h⟩ := zbind h
  refine zo_putR 48 zkd_3 5 d_Ni_init_45 eS_12 rfl rfl rfl rfl ⟨rfl, rfl⟩ tw_67 rfl ?_
  refine zi_aload_n 0 d_Ni_init_48 rfl ?_
  refine zi_bipush 8 d_Ni_init_49 rfl ?_
  obtain ⟨q_13, eq_13, h⟩ := zbind h
  refine zo_newarr (pos := 0) 53 d_Ni_init_51 eq_13 (by decide) rfl rfl (by decide) tw_129 (Nat.le_of_ble_eq_true rfl) (Nat.le_of_ble_eq_true rfl) rfl rfl rfl ?_
  obtain ⟨S_14, eS_14, h⟩ := zbind h
  refine zo_putR 56 zkd_3 6 d_Ni_init_53 eS_14 rfl rfl rfl rfl ⟨rfl, rfl⟩ tw_73 rfl ?_
  refine zi_aload_n 0 d_Ni_init_56 rfl ?_
  refine zi_bipush 6 d_Ni_init_57 rfl ?_
  obtain ⟨q_15, eq_15, h⟩ := zbind h
  refine zo_newarr (pos := 0) 61 d_Ni_init_59 eq_15 (by decide) rfl rfl (by decide) tw_129 (Nat.le_of_ble_eq_true rfl) (Nat.le_of_ble_eq_true rfl) rfl rfl rfl ?_
  obtain ⟨S_16, eS_16, h⟩ := zbind h
  refine zo_putR 64 zkd_3 7 d_Ni_init_61 eS_16 rfl rfl rfl rfl ⟨rfl, rfl⟩ tw_76 rfl ?_
  refine zi_aload_n 0 d_Ni_init_64 rfl ?_
  refine zi_bipush 6 d_Ni_init_65 rfl ?_
  obtain ⟨q_17, eq_17, h⟩ := zbind h
  refine zo_newarr (pos := 0) 69 d_Ni_init_67 eq_17 (by decide) rfl rfl (by decide) tw_129 (Nat.le_of_ble_eq_true rfl) (Nat.le_of_ble_eq_true rfl) rfl rfl rfl ?_
  obtain ⟨S_18, eS_18, h⟩ := zbind h
  refine zo_putR 72 zkd_3 8 d_Ni_init_69 eS_18 rfl rfl rfl rfl ⟨rfl, rfl⟩ tw_78 rfl ?_
  refine zi_aload_n 0 d_Ni_init_72 rfl ?_
  refine zi_iconst 4 d_Ni_init_73 rfl ?_
  obtain ⟨q_19, eq_19, h⟩ := zbind h
  refine zo_newarr (pos := 0) 76 d_Ni_init_74 eq_19 (by decide) rfl rfl (by decide) tw_129 (Nat.le_of_ble_eq_true rfl) (Nat.le_of_ble_eq_true rfl) rfl rfl rfl ?_
  obtain ⟨S_20, eS_20, h⟩ := zbind h
  refine zo_putR 79 zkd_3 9 d_Ni_init_76 eS_20 rfl rfl rfl rfl ⟨rfl, rfl⟩ tw_80 rfl ?_
  refine zi_aload_n 0 d_Ni_init_79 rfl ?_
  refine zi_bipush 6 d_Ni_init_80 rfl ?_
  obtain ⟨q_21, eq_21, h⟩ := zbind h
  refine zo_anew (pos := 4) 85 d_Ni_init_82 eq_21 (by decide) rfl (by decide) tw_36 (by decide) (Nat.le_of_ble_eq_true rfl) (Nat.le_of_ble_eq_true rfl) rfl rfl rfl ?_
  obtain ⟨S_22, eS_22, h⟩ := zbind h
  refine zo_putR 88 zkd_3 10 d_Ni_init_85 eS_22 rfl rfl rfl rfl ⟨rfl, rfl⟩ tw_85 rfl ?_
  refine zi_aload_n 0 d_Ni_init_88 rfl ?_
  refine zi_iconst 0 d_Ni_init_89 rfl ?_
  obtain ⟨m_23, em_23, h⟩ := zbind h
  refine zo_putI 93 zkd_3 11 d_Ni_init_90 em_23 rfl rfl rfl tw_86 rfl ?_
  refine zi_aload_n 0 d_Ni_init_93 rfl ?_
  refine zi_iconst 0 d_Ni_init_94 rfl ?_
  obtain ⟨m_24, em_24, h⟩ := zbind h
  refine zo_putI 98 zkd_3 12 d_Ni_init_95 em_24 rfl rfl rfl tw_90 rfl ?_
  refine zi_aload_n 0 d_Ni_init_98 rfl ?_
  refine zi_iconst 0 d_Ni_init_99 rfl ?_
  obtain ⟨m_25, em_25, h⟩ := zbind h
  refine zo_putI 103 zkd_3 13 d_Ni_init_100 em_25 rfl rfl rfl tw_93 rfl ?_
  refine zi_aload_n 0 d_Ni_init_103 rfl ?_
  refine zi_iconst (-1) d_Ni_init_104 rfl ?_
  obtain ⟨m_26, em_26, h⟩ := zbind h
  refine zo_putI 108 zkd_3 14 d_Ni_init_105 em_26 rfl rfl rfl tw_95 rfl ?_
  refine zi_aload_n 0 d_Ni_init_108 rfl ?_
  obtain ⟨b_27, eb_27, h⟩ := zbind h
  refine zo_getR 112 zkd_3 0 d_Ni_init_109 eb_27 rfl tw_41 rfl ?_
  refine zi_iconst 1 d_Ni_init_112 rfl ?_
  obtain ⟨q_28, eq_28, h⟩ := zbind h
  refine zo_stat (k' := 11) (n' := 107) 116 [.ref b_27, .int 1] [] [] (C_Ja_fillI n E S_22 b_27 1 m_26 q_28 eq_28) d_Ni_init_113 tw_40 tw_38 tw_39 tw_3 dd_Ja_fillI ⟨Nat.le_of_ble_eq_true rfl, Nat.le_of_ble_eq_true rfl, Nat.le_of_ble_eq_true rfl, Nat.le_of_ble_eq_true rfl⟩ (Nat.le_of_ble_eq_true rfl) rfl rfl rfl rfl ?_
  refine zi_aload_n 0 d_Ni_init_116 rfl ?_
  obtain ⟨b_29, eb_29, h⟩ := zbind h
  refine zo_getR 120 zkd_3 6 d_Ni_init_117 eb_29 rfl tw_73 rfl ?_
  refine zi_iconst (-1) d_Ni_init_120 rfl ?_
  obtain ⟨q_30, eq_30, h⟩ := zbind h
  refine zo_stat (k' := 11) (n' := 107) 124 [.ref b_29, .int (-1)] [] [] (C_Ja_fillI n E S_22 b_29 (-1) q_28 q_30 eq_30) d_Ni_init_121 tw_40 tw_38 tw_39 tw_3 dd_Ja_fillI ⟨Nat.le_of_ble_eq_true rfl, Nat.le_of_ble_eq_true rfl, Nat.le_of_ble_eq_true rfl, Nat.le_of_ble_eq_true rfl⟩ (Nat.le_of_ble_eq_true rfl) rfl rfl rfl rfl ?_
  refine zi_aload_n 0 d_Ni_init_124 rfl ?_
  obtain ⟨b_31, eb_31, h⟩ := zbind h
  refine zo_getR 128 zkd_3 9 d_Ni_init_125 eb_31 rfl tw_80 rfl ?_
  refine zi_iconst 1 d_Ni_init_128 rfl ?_
  refine zi_iconst 3 d_Ni_init_129 rfl ?_
  obtain ⟨m_32, em_32, h⟩ := zbind h
  refine zo_iast 131 d_Ni_init_130 em_32 rfl ?_
  refine zi_aload_n 0 d_Ni_init_131 rfl ?_
  refine zo_getR 135 zkd_3 9 d_Ni_init_132 eb_31 rfl tw_80 rfl ?_
  refine zi_iconst 3 d_Ni_init_135 rfl ?_
  refine zi_iconst 1 d_Ni_init_136 rfl ?_
  obtain ⟨m_33, em_33, h⟩ := zbind h
  refine zo_iast 138 d_Ni_init_137 em_33 rfl ?_
  cases h
  exact zo_ret d_Ni_init_138 (Nat.le_of_ble_eq_true rfl) (Nat.le_of_ble_eq_true rfl) rfl
theorem C_Ni_init (n : Nat) (E : zE) (a0 : Nat) (S : zS) (M : zH) (S' : zS) (M' : zH) (h : F_Ni_init n E a0 S M = some (S', M')) : zC E Y_Ni_init [.ref a0] S M (none, S', M') :=
  zC.of (Or.inl (show plainName "NightColander$Night" = true by decide)) (Nat.le_of_ble_eq_true rfl) (trivial) (K_Ni_init n E a0 S M S' M' h)
theorem d_Pa_init_0 : decode (yB Y_Pa_init) 0 = .ok (.aload_n 0, 1) := by decide +kernel
theorem d_Pa_init_1 : decode (yB Y_Pa_init) 1 = .ok (.invokespecial 3, 3) := by decide +kernel
theorem d_Pa_init_4 : decode (yB Y_Pa_init) 4 = .ok (.aload_n 0, 1) := by decide +kernel
theorem d_Pa_init_5 : decode (yB Y_Pa_init) 5 = .ok (.new 9, 3) := by decide +kernel
theorem d_Pa_init_8 : decode (yB Y_Pa_init) 8 = .ok (.dup, 1) := by decide +kernel
theorem d_Pa_init_9 : decode (yB Y_Pa_init) 9 = .ok (.invokespecial 11, 3) := by decide +kernel
theorem d_Pa_init_12 : decode (yB Y_Pa_init) 12 = .ok (.putfield 12, 3) := by decide +kernel
theorem d_Pa_init_15 : decode (yB Y_Pa_init) 15 = .ok (.aload_n 0, 1) := by decide +kernel
theorem d_Pa_init_16 : decode (yB Y_Pa_init) 16 = .ok (.sipush 256, 3) := by decide +kernel
theorem d_Pa_init_19 : decode (yB Y_Pa_init) 19 = .ok (.newarray .int, 2) := by decide +kernel
theorem d_Pa_init_21 : decode (yB Y_Pa_init) 21 = .ok (.putfield 18, 3) := by decide +kernel
theorem d_Pa_init_24 : decode (yB Y_Pa_init) 24 = .ok (.aload_n 0, 1) := by decide +kernel
theorem d_Pa_init_25 : decode (yB Y_Pa_init) 25 = .ok (.bipush 72, 2) := by decide +kernel
theorem d_Pa_init_27 : decode (yB Y_Pa_init) 27 = .ok (.newarray .int, 2) := by decide +kernel
theorem d_Pa_init_29 : decode (yB Y_Pa_init) 29 = .ok (.putfield 22, 3) := by decide +kernel
theorem d_Pa_init_32 : decode (yB Y_Pa_init) 32 = .ok (.aload_n 0, 1) := by decide +kernel
theorem d_Pa_init_33 : decode (yB Y_Pa_init) 33 = .ok (.bipush 24, 2) := by decide +kernel
theorem d_Pa_init_35 : decode (yB Y_Pa_init) 35 = .ok (.newarray .int, 2) := by decide +kernel
theorem d_Pa_init_37 : decode (yB Y_Pa_init) 37 = .ok (.putfield 25, 3) := by decide +kernel
theorem d_Pa_init_40 : decode (yB Y_Pa_init) 40 = .ok (.aload_n 0, 1) := by decide +kernel
theorem d_Pa_init_41 : decode (yB Y_Pa_init) 41 = .ok (.sipush 512, 3) := by decide +kernel
theorem d_Pa_init_44 : decode (yB Y_Pa_init) 44 = .ok (.newarray .int, 2) := by decide +kernel
theorem d_Pa_init_46 : decode (yB Y_Pa_init) 46 = .ok (.putfield 28, 3) := by decide +kernel
theorem d_Pa_init_49 : decode (yB Y_Pa_init) 49 = .ok (.aload_n 0, 1) := by decide +kernel
theorem d_Pa_init_50 : decode (yB Y_Pa_init) 50 = .ok (.sipush 401, 3) := by decide +kernel
theorem d_Pa_init_53 : decode (yB Y_Pa_init) 53 = .ok (.newarray .int, 2) := by decide +kernel
theorem d_Pa_init_55 : decode (yB Y_Pa_init) 55 = .ok (.putfield 31, 3) := by decide +kernel
theorem d_Pa_init_58 : decode (yB Y_Pa_init) 58 = .ok (.aload_n 0, 1) := by decide +kernel
theorem d_Pa_init_59 : decode (yB Y_Pa_init) 59 = .ok (.bipush 20, 2) := by decide +kernel
theorem d_Pa_init_61 : decode (yB Y_Pa_init) 61 = .ok (.newarray .long, 2) := by decide +kernel
theorem d_Pa_init_63 : decode (yB Y_Pa_init) 63 = .ok (.putfield 34, 3) := by decide +kernel
theorem d_Pa_init_66 : decode (yB Y_Pa_init) 66 = .ok (.aload_n 0, 1) := by decide +kernel
theorem d_Pa_init_67 : decode (yB Y_Pa_init) 67 = .ok (.iconst 0, 1) := by decide +kernel
theorem d_Pa_init_68 : decode (yB Y_Pa_init) 68 = .ok (.putfield 38, 3) := by decide +kernel
theorem d_Pa_init_71 : decode (yB Y_Pa_init) 71 = .ok (.aload_n 0, 1) := by decide +kernel
theorem d_Pa_init_72 : decode (yB Y_Pa_init) 72 = .ok (.iconst 0, 1) := by decide +kernel
theorem d_Pa_init_73 : decode (yB Y_Pa_init) 73 = .ok (.putfield 42, 3) := by decide +kernel
theorem d_Pa_init_76 : decode (yB Y_Pa_init) 76 = .ok (.aload_n 0, 1) := by decide +kernel
theorem d_Pa_init_77 : decode (yB Y_Pa_init) 77 = .ok (.aload_n 1, 1) := by decide +kernel
theorem d_Pa_init_78 : decode (yB Y_Pa_init) 78 = .ok (.putfield 45, 3) := by decide +kernel
theorem d_Pa_init_81 : decode (yB Y_Pa_init) 81 = .ok (.return_, 1) := by decide +kernel
def F_Pa_init (n : Nat) (E : zE) (a0 : Nat) (a1 : Nat) (S : zS) (M : zH) : Option (zS × zH) :=
  (zmkO S M 3).bind fun q_1 =>
  (F_Ni_init n E q_1.1 q_1.2.1 q_1.2.2).bind fun q_2 =>
  (zpR q_2.1 a0 4 1 q_1.1).bind fun S_3 =>
  (zmkA S_3 q_2.2 12 256 256).bind fun q_4 =>
  (zpR q_4.2.1 a0 4 2 q_4.1).bind fun S_5 =>
  (zmkA S_5 q_4.2.2 12 72 72).bind fun q_6 =>
  (zpR q_6.2.1 a0 4 3 q_6.1).bind fun S_7 =>
  (zmkA S_7 q_6.2.2 12 24 24).bind fun q_8 =>
  (zpR q_8.2.1 a0 4 4 q_8.1).bind fun S_9 =>
  (zmkA S_9 q_8.2.2 12 512 512).bind fun q_10 =>
  (zpR q_10.2.1 a0 4 5 q_10.1).bind fun S_11 =>
  (zmkA S_11 q_10.2.2 12 401 401).bind fun q_12 =>
  (zpR q_12.2.1 a0 4 6 q_12.1).bind fun S_13 =>
  (zmkA S_13 q_12.2.2 15 20 20).bind fun q_14 =>
  (zpR q_14.2.1 a0 4 7 q_14.1).bind fun S_15 =>
  (zpI S_15 q_14.2.2 a0 4 8 0).bind fun m_16 =>
  (zpI S_15 m_16 a0 4 9 0).bind fun m_17 =>
  (zpR S_15 a0 4 0 a1).bind fun S_18 =>
  some (S_18, m_17)
theorem K_Pa_init (n : Nat) (E : zE) (a0 : Nat) (a1 : Nat) (S : zS) (M : zH) (S' : zS) (M' : zH)  (h : F_Pa_init n E a0 a1 S M = some (S', M')) : zG E Y_Pa_init (none, S', M') 0 [(0, .ref a0), (1, .ref a1)] [] S M 0 0 := by
  unfold F_Pa_init at h
  refine zi_aload_n 0 d_Pa_init_0 rfl ?_
  refine zi_objInit d_Pa_init_1 tw_295 tw_28 zobj (by decide) (Nat.le_of_ble_eq_true rfl) ?_
  refine zi_aload_n 0 d_Pa_init_4 rfl ?_
  obtain ⟨q_1, eq_1, h⟩ := zbind h
  refine zo_new 8 zkd_3 d_Pa_init_5 eq_1 tw_296 tw_31 tw_2 (by decide) (Nat.le_of_ble_eq_true rfl) (Nat.le_of_ble_eq_true rfl) rfl rfl rfl ?_
  refine zi_dup d_Pa_init_8 rfl ?_
  obtain ⟨q_2, eq_2, h⟩ := zbind h
  refine zo_init (k' := 12) (n' := 122) 12 [] [.ref q_1.1, .ref a0] (C_Ni_init n E q_1.1 q_1.2.1 q_1.2.2 q_2.1 q_2.2 eq_2) d_Pa_init_9 rfl rfl tw_34 tw_297 tw_33 tw_2 dd_Ni_init ⟨Nat.le_of_ble_eq_true rfl, Nat.le_of_ble_eq_true rfl, Nat.le_of_ble_eq_true rfl, Nat.le_of_ble_eq_true rfl⟩ (Nat.le_of_ble_eq_true rfl) rfl rfl rfl ?_
  obtain ⟨S_3, eS_3, h⟩ := zbind h
  refine zo_putR 15 zkd_4 1 d_Pa_init_12 eS_3 rfl rfl rfl rfl ⟨rfl, rfl⟩ tw_299 rfl ?_
  refine zi_aload_n 0 d_Pa_init_15 rfl ?_
  refine zi_sipush 256 d_Pa_init_16 rfl ?_
  obtain ⟨q_4, eq_4, h⟩ := zbind h
  refine zo_newarr (pos := 0) 21 d_Pa_init_19 eq_4 (by decide) rfl rfl (by decide) tw_129 (Nat.le_of_ble_eq_true rfl) (Nat.le_of_ble_eq_true rfl) rfl rfl rfl ?_
  obtain ⟨S_5, eS_5, h⟩ := zbind h
  refine zo_putR 24 zkd_4 2 d_Pa_init_21 eS_5 rfl rfl rfl rfl ⟨rfl, rfl⟩ tw_300 rfl ?_
  refine zi_aload_n 0 d_Pa_init_24 rfl ?_
  refine zi_bipush 72 d_Pa_init_25 rfl ?_
  obtain ⟨q_6, eq_6, h⟩ := zbind h
  refine zo_newarr (pos := 0) 29 d_Pa_init_27 eq_6 (by decide) rfl rfl (by decide) tw_129 (Nat.le_of_ble_eq_true rfl) (Nat.le_of_ble_eq_true rfl) rfl rfl rfl ?_
  obtain ⟨S_7, eS_7, h⟩ := zbind h
  refine zo_putR 32 zkd_4 3 d_Pa_init_29 eS_7 rfl rfl rfl rfl ⟨rfl, rfl⟩ tw_301 rfl ?_
  refine zi_aload_n 0 d_Pa_init_32 rfl ?_
  refine zi_bipush 24 d_Pa_init_33 rfl ?_
  obtain ⟨q_8, eq_8, h⟩ := zbind h
  refine zo_newarr (pos := 0) 37 d_Pa_init_35 eq_8 (by decide) rfl rfl (by decide) tw_129 (Nat.le_of_ble_eq_true rfl) (Nat.le_of_ble_eq_true rfl) rfl rfl rfl ?_
  obtain ⟨S_9, eS_9, h⟩ := zbind h
  refine zo_putR 40 zkd_4 4 d_Pa_init_37 eS_9 rfl rfl rfl rfl ⟨rfl, rfl⟩ tw_302 rfl ?_
  refine zi_aload_n 0 d_Pa_init_40 rfl ?_
  refine zi_sipush 512 d_Pa_init_41 rfl ?_
  obtain ⟨q_10, eq_10, h⟩ := zbind h
  refine zo_newarr (pos := 0) 46 d_Pa_init_44 eq_10 (by decide) rfl rfl (by decide) tw_129 (Nat.le_of_ble_eq_true rfl) (Nat.le_of_ble_eq_true rfl) rfl rfl rfl ?_
  obtain ⟨S_11, eS_11, h⟩ := zbind h
  refine zo_putR 49 zkd_4 5 d_Pa_init_46 eS_11 rfl rfl rfl rfl ⟨rfl, rfl⟩ tw_303 rfl ?_
  refine zi_aload_n 0 d_Pa_init_49 rfl ?_
  refine zi_sipush 401 d_Pa_init_50 rfl ?_
  obtain ⟨q_12, eq_12, h⟩ := zbind h
  refine zo_newarr (pos := 0) 55 d_Pa_init_53 eq_12 (by decide) rfl rfl (by decide) tw_129 (Nat.le_of_ble_eq_true rfl) (Nat.le_of_ble_eq_true rfl) rfl rfl rfl ?_
  obtain ⟨S_13, eS_13, h⟩ := zbind h
  refine zo_putR 58 zkd_4 6 d_Pa_init_55 eS_13 rfl rfl rfl rfl ⟨rfl, rfl⟩ tw_304 rfl ?_
  refine zi_aload_n 0 d_Pa_init_58 rfl ?_
  refine zi_bipush 20 d_Pa_init_59 rfl ?_
  obtain ⟨q_14, eq_14, h⟩ := zbind h
  refine zo_newarr (pos := 3) 63 d_Pa_init_61 eq_14 (by decide) rfl rfl (by decide) tw_331 (Nat.le_of_ble_eq_true rfl) (Nat.le_of_ble_eq_true rfl) rfl rfl rfl ?_
  obtain ⟨S_15, eS_15, h⟩ := zbind h
  refine zo_putR 66 zkd_4 7 d_Pa_init_63 eS_15 rfl rfl rfl rfl ⟨rfl, rfl⟩ tw_305 rfl ?_
  refine zi_aload_n 0 d_Pa_init_66 rfl ?_
  refine zi_iconst 0 d_Pa_init_67 rfl ?_
  obtain ⟨m_16, em_16, h⟩ := zbind h
  refine zo_putI 71 zkd_4 8 d_Pa_init_68 em_16 rfl rfl rfl tw_306 rfl ?_
  refine zi_aload_n 0 d_Pa_init_71 rfl ?_
  refine zi_iconst 0 d_Pa_init_72 rfl ?_
  obtain ⟨m_17, em_17, h⟩ := zbind h
  refine zo_putI 76 zkd_4 9 d_Pa_init_73 em_17 rfl rfl rfl tw_308 rfl ?_
  refine zi_aload_n 0 d_Pa_init_76 rfl ?_
  refine zi_aload_n 1 d_Pa_init_77 rfl ?_
  obtain ⟨S_18, eS_18, h⟩ := zbind h
  refine zo_putR 81 zkd_4 0 d_Pa_init_78 eS_18 rfl rfl rfl rfl ⟨rfl, rfl⟩ tw_298 rfl ?_
  cases h
  exact zo_ret d_Pa_init_81 (Nat.le_of_ble_eq_true rfl) (Nat.le_of_ble_eq_true rfl) rfl
theorem C_Pa_init (n : Nat) (E : zE) (a0 : Nat) (a1 : Nat) (S : zS) (M : zH) (S' : zS) (M' : zH) (h : F_Pa_init n E a0 a1 S M = some (S', M')) : zC E Y_Pa_init [.ref a0, .ref a1] S M (none, S', M') :=
  zC.of (Or.inl (show plainName "NightColander$Paper" = true by decide)) (Nat.le_of_ble_eq_true rfl) (trivial) (K_Pa_init n E a0 a1 S M S' M' h)
theorem d_Te_init0_0 : decode (yB Y_Te_init0) 0 = .ok (.aload_n 0, 1) := by decide +kernel
theorem d_Te_init0_1 : decode (yB Y_Te_init0) 1 = .ok (.invokespecial 1, 3) := by decide +kernel
theorem d_Te_init0_4 : decode (yB Y_Te_init0) 4 = .ok (.aload_n 0, 1) := by decide +kernel
theorem d_Te_init0_5 : decode (yB Y_Te_init0) 5 = .ok (.iconst 0, 1) := by decide +kernel
theorem d_Te_init0_6 : decode (yB Y_Te_init0) 6 = .ok (.putfield 7, 3) := by decide +kernel
theorem d_Te_init0_9 : decode (yB Y_Te_init0) 9 = .ok (.aload_n 0, 1) := by decide +kernel
theorem d_Te_init0_10 : decode (yB Y_Te_init0) 10 = .ok (.iconst 0, 1) := by decide +kernel
theorem d_Te_init0_11 : decode (yB Y_Te_init0) 11 = .ok (.putfield 13, 3) := by decide +kernel
theorem d_Te_init0_14 : decode (yB Y_Te_init0) 14 = .ok (.aload_n 0, 1) := by decide +kernel
theorem d_Te_init0_15 : decode (yB Y_Te_init0) 15 = .ok (.sipush 400, 3) := by decide +kernel
theorem d_Te_init0_18 : decode (yB Y_Te_init0) 18 = .ok (.newarray .int, 2) := by decide +kernel
theorem d_Te_init0_20 : decode (yB Y_Te_init0) 20 = .ok (.putfield 16, 3) := by decide +kernel
theorem d_Te_init0_23 : decode (yB Y_Te_init0) 23 = .ok (.aload_n 0, 1) := by decide +kernel
theorem d_Te_init0_24 : decode (yB Y_Te_init0) 24 = .ok (.bipush 12, 2) := by decide +kernel
theorem d_Te_init0_26 : decode (yB Y_Te_init0) 26 = .ok (.newarray .int, 2) := by decide +kernel
theorem d_Te_init0_28 : decode (yB Y_Te_init0) 28 = .ok (.putfield 20, 3) := by decide +kernel
theorem d_Te_init0_31 : decode (yB Y_Te_init0) 31 = .ok (.aload_n 0, 1) := by decide +kernel
theorem d_Te_init0_32 : decode (yB Y_Te_init0) 32 = .ok (.bipush 12, 2) := by decide +kernel
theorem d_Te_init0_34 : decode (yB Y_Te_init0) 34 = .ok (.newarray .int, 2) := by decide +kernel
theorem d_Te_init0_36 : decode (yB Y_Te_init0) 36 = .ok (.putfield 23, 3) := by decide +kernel
theorem d_Te_init0_39 : decode (yB Y_Te_init0) 39 = .ok (.aload_n 0, 1) := by decide +kernel
theorem d_Te_init0_40 : decode (yB Y_Te_init0) 40 = .ok (.bipush 12, 2) := by decide +kernel
theorem d_Te_init0_42 : decode (yB Y_Te_init0) 42 = .ok (.newarray .int, 2) := by decide +kernel
theorem d_Te_init0_44 : decode (yB Y_Te_init0) 44 = .ok (.putfield 26, 3) := by decide +kernel
theorem d_Te_init0_47 : decode (yB Y_Te_init0) 47 = .ok (.aload_n 0, 1) := by decide +kernel
theorem d_Te_init0_48 : decode (yB Y_Te_init0) 48 = .ok (.bipush 48, 2) := by decide +kernel
theorem d_Te_init0_50 : decode (yB Y_Te_init0) 50 = .ok (.newarray .int, 2) := by decide +kernel
theorem d_Te_init0_52 : decode (yB Y_Te_init0) 52 = .ok (.putfield 29, 3) := by decide +kernel
theorem d_Te_init0_55 : decode (yB Y_Te_init0) 55 = .ok (.return_, 1) := by decide +kernel
def F_Te_init0 (n : Nat) (E : zE) (a0 : Nat) (S : zS) (M : zH) : Option (zS × zH) :=
  (zpI S M a0 9 5 0).bind fun m_1 =>
  (zpI S m_1 a0 9 6 0).bind fun m_2 =>
  (zmkA S m_2 12 400 400).bind fun q_3 =>
  (zpR q_3.2.1 a0 9 0 q_3.1).bind fun S_4 =>
  (zmkA S_4 q_3.2.2 12 12 12).bind fun q_5 =>
  (zpR q_5.2.1 a0 9 1 q_5.1).bind fun S_6 =>
  (zmkA S_6 q_5.2.2 12 12 12).bind fun q_7 =>
  (zpR q_7.2.1 a0 9 2 q_7.1).bind fun S_8 =>
  (zmkA S_8 q_7.2.2 12 12 12).bind fun q_9 =>
  (zpR q_9.2.1 a0 9 3 q_9.1).bind fun S_10 =>
  (zmkA S_10 q_9.2.2 12 48 48).bind fun q_11 =>
  (zpR q_11.2.1 a0 9 4 q_11.1).bind fun S_12 =>
  some (S_12, q_11.2.2)
theorem K_Te_init0 (n : Nat) (E : zE) (a0 : Nat) (S : zS) (M : zH) (S' : zS) (M' : zH)  (h : F_Te_init0 n E a0 S M = some (S', M')) : zG E Y_Te_init0 (none, S', M') 0 [(0, .ref a0)] [] S M 0 0 := by
  unfold F_Te_init0 at h
  refine zi_aload_n 0 d_Te_init0_0 rfl ?_
  refine zi_objInit d_Te_init0_1 tw_184 tw_28 zobj (by decide) (Nat.le_of_ble_eq_true rfl) ?_
  refine zi_aload_n 0 d_Te_init0_4 rfl ?_
  refine zi_iconst 0 d_Te_init0_5 rfl ?_
  obtain ⟨m_1, em_1, h⟩ := zbind h
  refine zo_putI 9 zkd_9 5 d_Te_init0_6 em_1 rfl rfl rfl tw_195 rfl ?_
  refine zi_aload_n 0 d_Te_init0_9 rfl ?_
  refine zi_iconst 0 d_Te_init0_10 rfl ?_
  obtain ⟨m_2, em_2, h⟩ := zbind h
  refine zo_putI 14 zkd_9 6 d_Te_init0_11 em_2 rfl rfl rfl tw_197 rfl ?_
  refine zi_aload_n 0 d_Te_init0_14 rfl ?_
  refine zi_sipush 400 d_Te_init0_15 rfl ?_
  obtain ⟨q_3, eq_3, h⟩ := zbind h
  refine zo_newarr (pos := 0) 20 d_Te_init0_18 eq_3 (by decide) rfl rfl (by decide) tw_129 (Nat.le_of_ble_eq_true rfl) (Nat.le_of_ble_eq_true rfl) rfl rfl rfl ?_
  obtain ⟨S_4, eS_4, h⟩ := zbind h
  refine zo_putR 23 zkd_9 0 d_Te_init0_20 eS_4 rfl rfl rfl rfl ⟨rfl, rfl⟩ tw_185 rfl ?_
  refine zi_aload_n 0 d_Te_init0_23 rfl ?_
  refine zi_bipush 12 d_Te_init0_24 rfl ?_
  obtain ⟨q_5, eq_5, h⟩ := zbind h
  refine zo_newarr (pos := 0) 28 d_Te_init0_26 eq_5 (by decide) rfl rfl (by decide) tw_129 (Nat.le_of_ble_eq_true rfl) (Nat.le_of_ble_eq_true rfl) rfl rfl rfl ?_
  obtain ⟨S_6, eS_6, h⟩ := zbind h
  refine zo_putR 31 zkd_9 1 d_Te_init0_28 eS_6 rfl rfl rfl rfl ⟨rfl, rfl⟩ tw_187 rfl ?_
  refine zi_aload_n 0 d_Te_init0_31 rfl ?_
  refine zi_bipush 12 d_Te_init0_32 rfl ?_
  obtain ⟨q_7, eq_7, h⟩ := zbind h
  refine zo_newarr (pos := 0) 36 d_Te_init0_34 eq_7 (by decide) rfl rfl (by decide) tw_129 (Nat.le_of_ble_eq_true rfl) (Nat.le_of_ble_eq_true rfl) rfl rfl rfl ?_
  obtain ⟨S_8, eS_8, h⟩ := zbind h
  refine zo_putR 39 zkd_9 2 d_Te_init0_36 eS_8 rfl rfl rfl rfl ⟨rfl, rfl⟩ tw_190 rfl ?_
  refine zi_aload_n 0 d_Te_init0_39 rfl ?_
  refine zi_bipush 12 d_Te_init0_40 rfl ?_
  obtain ⟨q_9, eq_9, h⟩ := zbind h
  refine zo_newarr (pos := 0) 44 d_Te_init0_42 eq_9 (by decide) rfl rfl (by decide) tw_129 (Nat.le_of_ble_eq_true rfl) (Nat.le_of_ble_eq_true rfl) rfl rfl rfl ?_
  obtain ⟨S_10, eS_10, h⟩ := zbind h
  refine zo_putR 47 zkd_9 3 d_Te_init0_44 eS_10 rfl rfl rfl rfl ⟨rfl, rfl⟩ tw_192 rfl ?_
  refine zi_aload_n 0 d_Te_init0_47 rfl ?_
  refine zi_bipush 48 d_Te_init0_48 rfl ?_
  obtain ⟨q_11, eq_11, h⟩ := zbind h
  refine zo_newarr (pos := 0) 52 d_Te_init0_50 eq_11 (by decide) rfl rfl (by decide) tw_129 (Nat.le_of_ble_eq_true rfl) (Nat.le_of_ble_eq_true rfl) rfl rfl rfl ?_
  obtain ⟨S_12, eS_12, h⟩ := zbind h
  refine zo_putR 55 zkd_9 4 d_Te_init0_52 eS_12 rfl rfl rfl rfl ⟨rfl, rfl⟩ tw_194 rfl ?_
  cases h
  exact zo_ret d_Te_init0_55 (Nat.le_of_ble_eq_true rfl) (Nat.le_of_ble_eq_true rfl) rfl
theorem C_Te_init0 (n : Nat) (E : zE) (a0 : Nat) (S : zS) (M : zH) (S' : zS) (M' : zH) (h : F_Te_init0 n E a0 S M = some (S', M')) : zC E Y_Te_init0 [.ref a0] S M (none, S', M') :=
  zC.of (Or.inl (show plainName "NightColander$Text" = true by decide)) (Nat.le_of_ble_eq_true rfl) (trivial) (K_Te_init0 n E a0 S M S' M' h)
theorem d_Ps_init_0 : decode (yB Y_Ps_init) 0 = .ok (.aload_n 0, 1) := by decide +kernel
theorem d_Ps_init_1 : decode (yB Y_Ps_init) 1 = .ok (.invokespecial 3, 3) := by decide +kernel
theorem d_Ps_init_4 : decode (yB Y_Ps_init) 4 = .ok (.aload_n 0, 1) := by decide +kernel
theorem d_Ps_init_5 : decode (yB Y_Ps_init) 5 = .ok (.new 9, 3) := by decide +kernel
theorem d_Ps_init_8 : decode (yB Y_Ps_init) 8 = .ok (.dup, 1) := by decide +kernel
theorem d_Ps_init_9 : decode (yB Y_Ps_init) 9 = .ok (.invokespecial 11, 3) := by decide +kernel
theorem d_Ps_init_12 : decode (yB Y_Ps_init) 12 = .ok (.putfield 12, 3) := by decide +kernel
theorem d_Ps_init_15 : decode (yB Y_Ps_init) 15 = .ok (.aload_n 0, 1) := by decide +kernel
theorem d_Ps_init_16 : decode (yB Y_Ps_init) 16 = .ok (.iconst 0, 1) := by decide +kernel
theorem d_Ps_init_17 : decode (yB Y_Ps_init) 17 = .ok (.putfield 18, 3) := by decide +kernel
theorem d_Ps_init_20 : decode (yB Y_Ps_init) 20 = .ok (.aload_n 0, 1) := by decide +kernel
theorem d_Ps_init_21 : decode (yB Y_Ps_init) 21 = .ok (.iconst 0, 1) := by decide +kernel
theorem d_Ps_init_22 : decode (yB Y_Ps_init) 22 = .ok (.putfield 22, 3) := by decide +kernel
theorem d_Ps_init_25 : decode (yB Y_Ps_init) 25 = .ok (.aload_n 0, 1) := by decide +kernel
theorem d_Ps_init_26 : decode (yB Y_Ps_init) 26 = .ok (.aload_n 1, 1) := by decide +kernel
theorem d_Ps_init_27 : decode (yB Y_Ps_init) 27 = .ok (.putfield 26, 3) := by decide +kernel
theorem d_Ps_init_30 : decode (yB Y_Ps_init) 30 = .ok (.return_, 1) := by decide +kernel
def F_Ps_init (n : Nat) (E : zE) (a0 : Nat) (a1 : Nat) (S : zS) (M : zH) : Option (zS × zH) :=
  (zmkO S M 9).bind fun q_1 =>
  (F_Te_init0 n E q_1.1 q_1.2.1 q_1.2.2).bind fun q_2 =>
  (zpR q_2.1 a0 5 0 q_1.1).bind fun S_3 =>
  (zpZ S_3 q_2.2 a0 5 2 0).bind fun m_4 =>
  (zpI S_3 m_4 a0 5 3 0).bind fun m_5 =>
  (zpR S_3 a0 5 1 a1).bind fun S_6 =>
  some (S_6, m_5)
theorem K_Ps_init (n : Nat) (E : zE) (a0 : Nat) (a1 : Nat) (S : zS) (M : zH) (S' : zS) (M' : zH)  (h : F_Ps_init n E a0 a1 S M = some (S', M')) : zG E Y_Ps_init (none, S', M') 0 [(0, .ref a0), (1, .ref a1)] [] S M 0 0 := by
  unfold F_Ps_init at h
  refine zi_aload_n 0 d_Ps_init_0 rfl ?_
  refine zi_objInit d_Ps_init_1 tw_178 tw_28 zobj (by decide) (Nat.le_of_ble_eq_true rfl) ?_
  refine zi_aload_n 0 d_Ps_init_4 rfl ?_
  obtain ⟨q_1, eq_1, h⟩ := zbind h
  refine zo_new 8 zkd_9 d_Ps_init_5 eq_1 tw_179 tw_180 tw_7 (by decide) (Nat.le_of_ble_eq_true rfl) (Nat.le_of_ble_eq_true rfl) rfl rfl rfl ?_
  refine zi_dup d_Ps_init_8 rfl ?_
  obtain ⟨q_2, eq_2, h⟩ := zbind h
  refine zo_init (k' := 6) (n' := 491) 12 [] [.ref q_1.1, .ref a0] (C_Te_init0 n E q_1.1 q_1.2.1 q_1.2.2 q_2.1 q_2.2 eq_2) d_Ps_init_9 rfl rfl tw_183 tw_181 tw_182 tw_7 dd_Te_init0 ⟨Nat.le_of_ble_eq_true rfl, Nat.le_of_ble_eq_true rfl, Nat.le_of_ble_eq_true rfl, Nat.le_of_ble_eq_true rfl⟩ (Nat.le_of_ble_eq_true rfl) rfl rfl rfl ?_
  obtain ⟨S_3, eS_3, h⟩ := zbind h
  refine zo_putR 15 zkd_5 0 d_Ps_init_12 eS_3 rfl rfl rfl rfl ⟨rfl, rfl⟩ tw_215 rfl ?_
  refine zi_aload_n 0 d_Ps_init_15 rfl ?_
  refine zi_iconst 0 d_Ps_init_16 rfl ?_
  obtain ⟨m_4, em_4, h⟩ := zbind h
  refine zo_putZ 20 zkd_5 2 d_Ps_init_17 em_4 rfl rfl rfl tw_218 rfl ?_
  refine zi_aload_n 0 d_Ps_init_20 rfl ?_
  refine zi_iconst 0 d_Ps_init_21 rfl ?_
  obtain ⟨m_5, em_5, h⟩ := zbind h
  refine zo_putI 25 zkd_5 3 d_Ps_init_22 em_5 rfl rfl rfl tw_219 rfl ?_
  refine zi_aload_n 0 d_Ps_init_25 rfl ?_
  refine zi_aload_n 1 d_Ps_init_26 rfl ?_
  obtain ⟨S_6, eS_6, h⟩ := zbind h
  refine zo_putR 30 zkd_5 1 d_Ps_init_27 eS_6 rfl rfl rfl rfl ⟨rfl, rfl⟩ tw_217 rfl ?_
  cases h
  exact zo_ret d_Ps_init_30 (Nat.le_of_ble_eq_true rfl) (Nat.le_of_ble_eq_true rfl) rfl
theorem C_Ps_init (n : Nat) (E : zE) (a0 : Nat) (a1 : Nat) (S : zS) (M : zH) (S' : zS) (M' : zH) (h : F_Ps_init n E a0 a1 S M = some (S', M')) : zC E Y_Ps_init [.ref a0, .ref a1] S M (none, S', M') :=
  zC.of (Or.inl (show plainName "NightColander$Parser" = true by decide)) (Nat.le_of_ble_eq_true rfl) (trivial) (K_Ps_init n E a0 a1 S M S' M' h)
theorem d_Pt_init_0 : decode (yB Y_Pt_init) 0 = .ok (.aload_n 0, 1) := by decide +kernel
theorem d_Pt_init_1 : decode (yB Y_Pt_init) 1 = .ok (.invokespecial 3, 3) := by decide +kernel
theorem d_Pt_init_4 : decode (yB Y_Pt_init) 4 = .ok (.aload_n 0, 1) := by decide +kernel
theorem d_Pt_init_5 : decode (yB Y_Pt_init) 5 = .ok (.bipush 96, 2) := by decide +kernel
theorem d_Pt_init_7 : decode (yB Y_Pt_init) 7 = .ok (.newarray .int, 2) := by decide +kernel
theorem d_Pt_init_9 : decode (yB Y_Pt_init) 9 = .ok (.putfield 11, 3) := by decide +kernel
theorem d_Pt_init_12 : decode (yB Y_Pt_init) 12 = .ok (.aload_n 0, 1) := by decide +kernel
theorem d_Pt_init_13 : decode (yB Y_Pt_init) 13 = .ok (.iconst 0, 1) := by decide +kernel
theorem d_Pt_init_14 : decode (yB Y_Pt_init) 14 = .ok (.putfield 15, 3) := by decide +kernel
theorem d_Pt_init_17 : decode (yB Y_Pt_init) 17 = .ok (.return_, 1) := by decide +kernel
def F_Pt_init (n : Nat) (E : zE) (a0 : Nat) (S : zS) (M : zH) : Option (zS × zH) :=
  (zmkA S M 12 96 96).bind fun q_1 =>
  (zpR q_1.2.1 a0 6 0 q_1.1).bind fun S_2 =>
  (zpI S_2 q_1.2.2 a0 6 1 0).bind fun m_3 =>
  some (S_2, m_3)
theorem K_Pt_init (n : Nat) (E : zE) (a0 : Nat) (S : zS) (M : zH) (S' : zS) (M' : zH)  (h : F_Pt_init n E a0 S M = some (S', M')) : zG E Y_Pt_init (none, S', M') 0 [(0, .ref a0)] [] S M 0 0 := by
  unfold F_Pt_init at h
  refine zi_aload_n 0 d_Pt_init_0 rfl ?_
  refine zi_objInit d_Pt_init_1 tw_137 tw_28 zobj (by decide) (Nat.le_of_ble_eq_true rfl) ?_
  refine zi_aload_n 0 d_Pt_init_4 rfl ?_
  refine zi_bipush 96 d_Pt_init_5 rfl ?_
  obtain ⟨q_1, eq_1, h⟩ := zbind h
  refine zo_newarr (pos := 0) 9 d_Pt_init_7 eq_1 (by decide) rfl rfl (by decide) tw_129 (Nat.le_of_ble_eq_true rfl) (Nat.le_of_ble_eq_true rfl) rfl rfl rfl ?_
  obtain ⟨S_2, eS_2, h⟩ := zbind h
  refine zo_putR 12 zkd_6 0 d_Pt_init_9 eS_2 rfl rfl rfl rfl ⟨rfl, rfl⟩ tw_138 rfl ?_
  refine zi_aload_n 0 d_Pt_init_12 rfl ?_
  refine zi_iconst 0 d_Pt_init_13 rfl ?_
  obtain ⟨m_3, em_3, h⟩ := zbind h
  refine zo_putI 17 zkd_6 1 d_Pt_init_14 em_3 rfl rfl rfl tw_139 rfl ?_
  cases h
  exact zo_ret d_Pt_init_17 (Nat.le_of_ble_eq_true rfl) (Nat.le_of_ble_eq_true rfl) rfl
theorem C_Pt_init (n : Nat) (E : zE) (a0 : Nat) (S : zS) (M : zH) (S' : zS) (M' : zH) (h : F_Pt_init n E a0 S M = some (S', M')) : zC E Y_Pt_init [.ref a0] S M (none, S', M') :=
  zC.of (Or.inl (show plainName "NightColander$Past" = true by decide)) (Nat.le_of_ble_eq_true rfl) (trivial) (K_Pt_init n E a0 S M S' M' h)
theorem d_Ru_init_0 : decode (yB Y_Ru_init) 0 = .ok (.aload_n 0, 1) := by decide +kernel
theorem d_Ru_init_1 : decode (yB Y_Ru_init) 1 = .ok (.invokespecial 3, 3) := by decide +kernel
theorem d_Ru_init_4 : decode (yB Y_Ru_init) 4 = .ok (.aload_n 0, 1) := by decide +kernel
theorem d_Ru_init_5 : decode (yB Y_Ru_init) 5 = .ok (.new 9, 3) := by decide +kernel
theorem d_Ru_init_8 : decode (yB Y_Ru_init) 8 = .ok (.dup, 1) := by decide +kernel
theorem d_Ru_init_9 : decode (yB Y_Ru_init) 9 = .ok (.invokespecial 11, 3) := by decide +kernel
theorem d_Ru_init_12 : decode (yB Y_Ru_init) 12 = .ok (.putfield 12, 3) := by decide +kernel
theorem d_Ru_init_15 : decode (yB Y_Ru_init) 15 = .ok (.aload_n 0, 1) := by decide +kernel
theorem d_Ru_init_16 : decode (yB Y_Ru_init) 16 = .ok (.bipush 19, 2) := by decide +kernel
theorem d_Ru_init_18 : decode (yB Y_Ru_init) 18 = .ok (.newarray .int, 2) := by decide +kernel
theorem d_Ru_init_20 : decode (yB Y_Ru_init) 20 = .ok (.putfield 18, 3) := by decide +kernel
theorem d_Ru_init_23 : decode (yB Y_Ru_init) 23 = .ok (.aload_n 0, 1) := by decide +kernel
theorem d_Ru_init_24 : decode (yB Y_Ru_init) 24 = .ok (.iconst 0, 1) := by decide +kernel
theorem d_Ru_init_25 : decode (yB Y_Ru_init) 25 = .ok (.putfield 22, 3) := by decide +kernel
theorem d_Ru_init_28 : decode (yB Y_Ru_init) 28 = .ok (.aload_n 0, 1) := by decide +kernel
theorem d_Ru_init_29 : decode (yB Y_Ru_init) 29 = .ok (.iconst (-1), 1) := by decide +kernel
theorem d_Ru_init_30 : decode (yB Y_Ru_init) 30 = .ok (.putfield 26, 3) := by decide +kernel
theorem d_Ru_init_33 : decode (yB Y_Ru_init) 33 = .ok (.aload_n 0, 1) := by decide +kernel
theorem d_Ru_init_34 : decode (yB Y_Ru_init) 34 = .ok (.aload_n 1, 1) := by decide +kernel
theorem d_Ru_init_35 : decode (yB Y_Ru_init) 35 = .ok (.putfield 29, 3) := by decide +kernel
theorem d_Ru_init_38 : decode (yB Y_Ru_init) 38 = .ok (.aload_n 0, 1) := by decide +kernel
theorem d_Ru_init_39 : decode (yB Y_Ru_init) 39 = .ok (.aload_n 2, 1) := by decide +kernel
theorem d_Ru_init_40 : decode (yB Y_Ru_init) 40 = .ok (.putfield 33, 3) := by decide +kernel
theorem d_Ru_init_43 : decode (yB Y_Ru_init) 43 = .ok (.return_, 1) := by decide +kernel
def F_Ru_init (n : Nat) (E : zE) (a0 : Nat) (a1 : Nat) (a2 : Nat) (S : zS) (M : zH) : Option (zS × zH) :=
  (zmkO S M 2).bind fun q_1 =>
  (F_Mc_init n E q_1.1 q_1.2.1 q_1.2.2).bind fun q_2 =>
  (zpR q_2.1 a0 7 2 q_1.1).bind fun S_3 =>
  (zmkA S_3 q_2.2 12 19 19).bind fun q_4 =>
  (zpR q_4.2.1 a0 7 3 q_4.1).bind fun S_5 =>
  (zpI S_5 q_4.2.2 a0 7 4 0).bind fun m_6 =>
  (zpI S_5 m_6 a0 7 5 (-1)).bind fun m_7 =>
  (zpR S_5 a0 7 0 a1).bind fun S_8 =>
  (zpR S_8 a0 7 1 a2).bind fun S_9 =>
  some (S_9, m_7)
theorem K_Ru_init (n : Nat) (E : zE) (a0 : Nat) (a1 : Nat) (a2 : Nat) (S : zS) (M : zH) (S' : zS) (M' : zH)  (h : F_Ru_init n E a0 a1 a2 S M = some (S', M')) : zG E Y_Ru_init (none, S', M') 0 [(0, .ref a0), (1, .ref a1), (2, .ref a2)] [] S M 0 0 := by
  unfold F_Ru_init at h
  refine zi_aload_n 0 d_Ru_init_0 rfl ?_
  refine zi_objInit d_Ru_init_1 tw_267 tw_28 zobj (by decide) (Nat.le_of_ble_eq_true rfl) ?_
  refine zi_aload_n 0 d_Ru_init_4 rfl ?_
  obtain ⟨q_1, eq_1, h⟩ := zbind h
  refine zo_new 8 zkd_2 d_Ru_init_5 eq_1 tw_268 tw_236 tw_9 (by decide) (Nat.le_of_ble_eq_true rfl) (Nat.le_of_ble_eq_true rfl) rfl rfl rfl ?_
  refine zi_dup d_Ru_init_8 rfl ?_
  obtain ⟨q_2, eq_2, h⟩ := zbind h
  refine zo_initN (k' := 2) (n' := 65) 12 [] [.ref q_1.1, .ref a0] (C_Mc_init n E q_1.1 q_1.2.1 q_1.2.2 q_2.1 q_2.2 eq_2) d_Ru_init_9 rfl rfl tw_239 (List.mem_of_getElem? (i := 4) rfl) tw_238 tw_9 dd_Mc_init ⟨Nat.le_of_ble_eq_true rfl, Nat.le_of_ble_eq_true rfl, Nat.le_of_ble_eq_true rfl, Nat.le_of_ble_eq_true rfl⟩ (Nat.le_of_ble_eq_true rfl) rfl rfl rfl ?_
  obtain ⟨S_3, eS_3, h⟩ := zbind h
  refine zo_putR 15 zkd_7 2 d_Ru_init_12 eS_3 rfl rfl rfl rfl ⟨rfl, rfl⟩ tw_272 rfl ?_
  refine zi_aload_n 0 d_Ru_init_15 rfl ?_
  refine zi_bipush 19 d_Ru_init_16 rfl ?_
  obtain ⟨q_4, eq_4, h⟩ := zbind h
  refine zo_newarr (pos := 0) 20 d_Ru_init_18 eq_4 (by decide) rfl rfl (by decide) tw_129 (Nat.le_of_ble_eq_true rfl) (Nat.le_of_ble_eq_true rfl) rfl rfl rfl ?_
  obtain ⟨S_5, eS_5, h⟩ := zbind h
  refine zo_putR 23 zkd_7 3 d_Ru_init_20 eS_5 rfl rfl rfl rfl ⟨rfl, rfl⟩ tw_273 rfl ?_
  refine zi_aload_n 0 d_Ru_init_23 rfl ?_
  refine zi_iconst 0 d_Ru_init_24 rfl ?_
  obtain ⟨m_6, em_6, h⟩ := zbind h
  refine zo_putI 28 zkd_7 4 d_Ru_init_25 em_6 rfl rfl rfl tw_274 rfl ?_
  refine zi_aload_n 0 d_Ru_init_28 rfl ?_
  refine zi_iconst (-1) d_Ru_init_29 rfl ?_
  obtain ⟨m_7, em_7, h⟩ := zbind h
  refine zo_putI 33 zkd_7 5 d_Ru_init_30 em_7 rfl rfl rfl tw_276 rfl ?_
  refine zi_aload_n 0 d_Ru_init_33 rfl ?_
  refine zi_aload_n 1 d_Ru_init_34 rfl ?_
  obtain ⟨S_8, eS_8, h⟩ := zbind h
  refine zo_putR 38 zkd_7 0 d_Ru_init_35 eS_8 rfl rfl rfl rfl ⟨rfl, rfl⟩ tw_270 rfl ?_
  refine zi_aload_n 0 d_Ru_init_38 rfl ?_
  refine zi_aload_n 2 d_Ru_init_39 rfl ?_
  obtain ⟨S_9, eS_9, h⟩ := zbind h
  refine zo_putR 43 zkd_7 1 d_Ru_init_40 eS_9 rfl rfl rfl rfl ⟨rfl, rfl⟩ tw_271 rfl ?_
  cases h
  exact zo_ret d_Ru_init_43 (Nat.le_of_ble_eq_true rfl) (Nat.le_of_ble_eq_true rfl) rfl
theorem C_Ru_init (n : Nat) (E : zE) (a0 : Nat) (a1 : Nat) (a2 : Nat) (S : zS) (M : zH) (S' : zS) (M' : zH) (h : F_Ru_init n E a0 a1 a2 S M = some (S', M')) : zC E Y_Ru_init [.ref a0, .ref a1, .ref a2] S M (none, S', M') :=
  zC.of (Or.inl (show plainName "NightColander$Runner" = true by decide)) (Nat.le_of_ble_eq_true rfl) (trivial) (K_Ru_init n E a0 a1 a2 S M S' M' h)
theorem d_Ta_init_0 : decode (yB Y_Ta_init) 0 = .ok (.aload_n 0, 1) := by decide +kernel
theorem d_Ta_init_1 : decode (yB Y_Ta_init) 1 = .ok (.invokespecial 3, 3) := by decide +kernel
theorem d_Ta_init_4 : decode (yB Y_Ta_init) 4 = .ok (.aload_n 0, 1) := by decide +kernel
theorem d_Ta_init_5 : decode (yB Y_Ta_init) 5 = .ok (.sipush 400, 3) := by decide +kernel
theorem d_Ta_init_8 : decode (yB Y_Ta_init) 8 = .ok (.newarray .byte, 2) := by decide +kernel
theorem d_Ta_init_10 : decode (yB Y_Ta_init) 10 = .ok (.putfield 11, 3) := by decide +kernel
theorem d_Ta_init_13 : decode (yB Y_Ta_init) 13 = .ok (.aload_n 0, 1) := by decide +kernel
theorem d_Ta_init_14 : decode (yB Y_Ta_init) 14 = .ok (.iconst 0, 1) := by decide +kernel
theorem d_Ta_init_15 : decode (yB Y_Ta_init) 15 = .ok (.putfield 15, 3) := by decide +kernel
theorem d_Ta_init_18 : decode (yB Y_Ta_init) 18 = .ok (.aload_n 0, 1) := by decide +kernel
theorem d_Ta_init_19 : decode (yB Y_Ta_init) 19 = .ok (.iconst 0, 1) := by decide +kernel
theorem d_Ta_init_20 : decode (yB Y_Ta_init) 20 = .ok (.putfield 19, 3) := by decide +kernel
theorem d_Ta_init_23 : decode (yB Y_Ta_init) 23 = .ok (.aload_n 0, 1) := by decide +kernel
theorem d_Ta_init_24 : decode (yB Y_Ta_init) 24 = .ok (.iconst 0, 1) := by decide +kernel
theorem d_Ta_init_25 : decode (yB Y_Ta_init) 25 = .ok (.putfield 22, 3) := by decide +kernel
theorem d_Ta_init_28 : decode (yB Y_Ta_init) 28 = .ok (.aload_n 0, 1) := by decide +kernel
theorem d_Ta_init_29 : decode (yB Y_Ta_init) 29 = .ok (.iconst 0, 1) := by decide +kernel
theorem d_Ta_init_30 : decode (yB Y_Ta_init) 30 = .ok (.putfield 25, 3) := by decide +kernel
theorem d_Ta_init_33 : decode (yB Y_Ta_init) 33 = .ok (.aload_n 0, 1) := by decide +kernel
theorem d_Ta_init_34 : decode (yB Y_Ta_init) 34 = .ok (.iconst 0, 1) := by decide +kernel
theorem d_Ta_init_35 : decode (yB Y_Ta_init) 35 = .ok (.putfield 28, 3) := by decide +kernel
theorem d_Ta_init_38 : decode (yB Y_Ta_init) 38 = .ok (.return_, 1) := by decide +kernel
def F_Ta_init (n : Nat) (E : zE) (a0 : Nat) (S : zS) (M : zH) : Option (zS × zH) :=
  (zmkA S M 14 400 400).bind fun q_1 =>
  (zpR q_1.2.1 a0 8 0 q_1.1).bind fun S_2 =>
  (zpI S_2 q_1.2.2 a0 8 1 0).bind fun m_3 =>
  (zpI S_2 m_3 a0 8 2 0).bind fun m_4 =>
  (zpI S_2 m_4 a0 8 3 0).bind fun m_5 =>
  (zpI S_2 m_5 a0 8 4 0).bind fun m_6 =>
  (zpI S_2 m_6 a0 8 5 0).bind fun m_7 =>
  some (S_2, m_7)
theorem K_Ta_init (n : Nat) (E : zE) (a0 : Nat) (S : zS) (M : zH) (S' : zS) (M' : zH)  (h : F_Ta_init n E a0 S M = some (S', M')) : zG E Y_Ta_init (none, S', M') 0 [(0, .ref a0)] [] S M 0 0 := by
  unfold F_Ta_init at h
  refine zi_aload_n 0 d_Ta_init_0 rfl ?_
  refine zi_objInit d_Ta_init_1 tw_151 tw_28 zobj (by decide) (Nat.le_of_ble_eq_true rfl) ?_
  refine zi_aload_n 0 d_Ta_init_4 rfl ?_
  refine zi_sipush 400 d_Ta_init_5 rfl ?_
  obtain ⟨q_1, eq_1, h⟩ := zbind h
  refine zo_newarr (pos := 2) 10 d_Ta_init_8 eq_1 (by decide) rfl rfl (by decide) tw_172 (Nat.le_of_ble_eq_true rfl) (Nat.le_of_ble_eq_true rfl) rfl rfl rfl ?_
  obtain ⟨S_2, eS_2, h⟩ := zbind h
  refine zo_putR 13 zkd_8 0 d_Ta_init_10 eS_2 rfl rfl rfl rfl ⟨rfl, rfl⟩ tw_152 rfl ?_
  refine zi_aload_n 0 d_Ta_init_13 rfl ?_
  refine zi_iconst 0 d_Ta_init_14 rfl ?_
  obtain ⟨m_3, em_3, h⟩ := zbind h
  refine zo_putI 18 zkd_8 1 d_Ta_init_15 em_3 rfl rfl rfl tw_153 rfl ?_
  refine zi_aload_n 0 d_Ta_init_18 rfl ?_
  refine zi_iconst 0 d_Ta_init_19 rfl ?_
  obtain ⟨m_4, em_4, h⟩ := zbind h
  refine zo_putI 23 zkd_8 2 d_Ta_init_20 em_4 rfl rfl rfl tw_155 rfl ?_
  refine zi_aload_n 0 d_Ta_init_23 rfl ?_
  refine zi_iconst 0 d_Ta_init_24 rfl ?_
  obtain ⟨m_5, em_5, h⟩ := zbind h
  refine zo_putI 28 zkd_8 3 d_Ta_init_25 em_5 rfl rfl rfl tw_156 rfl ?_
  refine zi_aload_n 0 d_Ta_init_28 rfl ?_
  refine zi_iconst 0 d_Ta_init_29 rfl ?_
  obtain ⟨m_6, em_6, h⟩ := zbind h
  refine zo_putI 33 zkd_8 4 d_Ta_init_30 em_6 rfl rfl rfl tw_157 rfl ?_
  refine zi_aload_n 0 d_Ta_init_33 rfl ?_
  refine zi_iconst 0 d_Ta_init_34 rfl ?_
  obtain ⟨m_7, em_7, h⟩ := zbind h
  refine zo_putI 38 zkd_8 5 d_Ta_init_35 em_7 rfl rfl rfl tw_158 rfl ?_
  cases h
  exact zo_ret d_Ta_init_38 (Nat.le_of_ble_eq_true rfl) (Nat.le_of_ble_eq_true rfl) rfl
theorem C_Ta_init (n : Nat) (E : zE) (a0 : Nat) (S : zS) (M : zH) (S' : zS) (M' : zH) (h : F_Ta_init n E a0 S M = some (S', M')) : zC E Y_Ta_init [.ref a0] S M (none, S', M') :=
  zC.of (Or.inl (show plainName "NightColander$Tape" = true by decide)) (Nat.le_of_ble_eq_true rfl) (trivial) (K_Ta_init n E a0 S M S' M' h)
theorem d_NC_init_0 : decode (yB Y_NC_init) 0 = .ok (.aload_n 0, 1) := by decide +kernel
theorem d_NC_init_1 : decode (yB Y_NC_init) 1 = .ok (.invokespecial 3, 3) := by decide +kernel
theorem d_NC_init_4 : decode (yB Y_NC_init) 4 = .ok (.aload_n 0, 1) := by decide +kernel
theorem d_NC_init_5 : decode (yB Y_NC_init) 5 = .ok (.new 9, 3) := by decide +kernel
theorem d_NC_init_8 : decode (yB Y_NC_init) 8 = .ok (.dup, 1) := by decide +kernel
theorem d_NC_init_9 : decode (yB Y_NC_init) 9 = .ok (.invokespecial 11, 3) := by decide +kernel
theorem d_NC_init_12 : decode (yB Y_NC_init) 12 = .ok (.putfield 12, 3) := by decide +kernel
theorem d_NC_init_15 : decode (yB Y_NC_init) 15 = .ok (.aload_n 0, 1) := by decide +kernel
theorem d_NC_init_16 : decode (yB Y_NC_init) 16 = .ok (.iconst 2, 1) := by decide +kernel
theorem d_NC_init_17 : decode (yB Y_NC_init) 17 = .ok (.anewarray 9, 3) := by decide +kernel
theorem d_NC_init_20 : decode (yB Y_NC_init) 20 = .ok (.dup, 1) := by decide +kernel
theorem d_NC_init_21 : decode (yB Y_NC_init) 21 = .ok (.iconst 0, 1) := by decide +kernel
theorem d_NC_init_22 : decode (yB Y_NC_init) 22 = .ok (.new 9, 3) := by decide +kernel
theorem d_NC_init_25 : decode (yB Y_NC_init) 25 = .ok (.dup, 1) := by decide +kernel
theorem d_NC_init_26 : decode (yB Y_NC_init) 26 = .ok (.invokespecial 11, 3) := by decide +kernel
theorem d_NC_init_29 : decode (yB Y_NC_init) 29 = .ok (.aastore, 1) := by decide +kernel
theorem d_NC_init_30 : decode (yB Y_NC_init) 30 = .ok (.dup, 1) := by decide +kernel
theorem d_NC_init_31 : decode (yB Y_NC_init) 31 = .ok (.iconst 1, 1) := by decide +kernel
theorem d_NC_init_32 : decode (yB Y_NC_init) 32 = .ok (.new 9, 3) := by decide +kernel
theorem d_NC_init_35 : decode (yB Y_NC_init) 35 = .ok (.dup, 1) := by decide +kernel
theorem d_NC_init_36 : decode (yB Y_NC_init) 36 = .ok (.invokespecial 11, 3) := by decide +kernel
theorem d_NC_init_39 : decode (yB Y_NC_init) 39 = .ok (.aastore, 1) := by decide +kernel
theorem d_NC_init_40 : decode (yB Y_NC_init) 40 = .ok (.putfield 18, 3) := by decide +kernel
theorem d_NC_init_43 : decode (yB Y_NC_init) 43 = .ok (.aload_n 0, 1) := by decide +kernel
theorem d_NC_init_44 : decode (yB Y_NC_init) 44 = .ok (.iconst 2, 1) := by decide +kernel
theorem d_NC_init_45 : decode (yB Y_NC_init) 45 = .ok (.newarray .boolean, 2) := by decide +kernel
theorem d_NC_init_47 : decode (yB Y_NC_init) 47 = .ok (.putfield 22, 3) := by decide +kernel
theorem d_NC_init_50 : decode (yB Y_NC_init) 50 = .ok (.aload_n 0, 1) := by decide +kernel
theorem d_NC_init_51 : decode (yB Y_NC_init) 51 = .ok (.new 9, 3) := by decide +kernel
theorem d_NC_init_54 : decode (yB Y_NC_init) 54 = .ok (.dup, 1) := by decide +kernel
theorem d_NC_init_55 : decode (yB Y_NC_init) 55 = .ok (.invokespecial 11, 3) := by decide +kernel
theorem d_NC_init_58 : decode (yB Y_NC_init) 58 = .ok (.putfield 26, 3) := by decide +kernel
theorem d_NC_init_61 : decode (yB Y_NC_init) 61 = .ok (.aload_n 0, 1) := by decide +kernel
theorem d_NC_init_62 : decode (yB Y_NC_init) 62 = .ok (.new 9, 3) := by decide +kernel
theorem d_NC_init_65 : decode (yB Y_NC_init) 65 = .ok (.dup, 1) := by decide +kernel
theorem d_NC_init_66 : decode (yB Y_NC_init) 66 = .ok (.invokespecial 11, 3) := by decide +kernel
theorem d_NC_init_69 : decode (yB Y_NC_init) 69 = .ok (.putfield 29, 3) := by decide +kernel
theorem d_NC_init_72 : decode (yB Y_NC_init) 72 = .ok (.aload_n 0, 1) := by decide +kernel
theorem d_NC_init_73 : decode (yB Y_NC_init) 73 = .ok (.new 32, 3) := by decide +kernel
theorem d_NC_init_76 : decode (yB Y_NC_init) 76 = .ok (.dup, 1) := by decide +kernel
theorem d_NC_init_77 : decode (yB Y_NC_init) 77 = .ok (.invokespecial 34, 3) := by decide +kernel
theorem d_NC_init_80 : decode (yB Y_NC_init) 80 = .ok (.putfield 35, 3) := by decide +kernel
theorem d_NC_init_83 : decode (yB Y_NC_init) 83 = .ok (.aload_n 0, 1) := by decide +kernel
theorem d_NC_init_84 : decode (yB Y_NC_init) 84 = .ok (.new 32, 3) := by decide +kernel
theorem d_NC_init_87 : decode (yB Y_NC_init) 87 = .ok (.dup, 1) := by decide +kernel
theorem d_NC_init_88 : decode (yB Y_NC_init) 88 = .ok (.invokespecial 34, 3) := by decide +kernel
theorem d_NC_init_91 : decode (yB Y_NC_init) 91 = .ok (.putfield 39, 3) := by decide +kernel
theorem d_NC_init_94 : decode (yB Y_NC_init) 94 = .ok (.aload_n 0, 1) := by decide +kernel
theorem d_NC_init_95 : decode (yB Y_NC_init) 95 = .ok (.new 42, 3) := by decide +kernel
theorem d_NC_init_98 : decode (yB Y_NC_init) 98 = .ok (.dup, 1) := by decide +kernel
theorem d_NC_init_99 : decode (yB Y_NC_init) 99 = .ok (.invokespecial 44, 3) := by decide +kernel
theorem d_NC_init_102 : decode (yB Y_NC_init) 102 = .ok (.putfield 45, 3) := by decide +kernel
theorem d_NC_init_105 : decode (yB Y_NC_init) 105 = .ok (.aload_n 0, 1) := by decide +kernel
theorem d_NC_init_106 : decode (yB Y_NC_init) 106 = .ok (.new 49, 3) := by decide +kernel
theorem d_NC_init_109 : decode (yB Y_NC_init) 109 = .ok (.dup, 1) := by decide +kernel
theorem d_NC_init_110 : decode (yB Y_NC_init) 110 = .ok (.aload_n 0, 1) := by decide +kernel
theorem d_NC_init_111 : decode (yB Y_NC_init) 111 = .ok (.getfield 45, 3) := by decide +kernel
theorem d_NC_init_114 : decode (yB Y_NC_init) 114 = .ok (.invokespecial 51, 3) := by decide +kernel
theorem d_NC_init_117 : decode (yB Y_NC_init) 117 = .ok (.putfield 54, 3) := by decide +kernel
theorem d_NC_init_120 : decode (yB Y_NC_init) 120 = .ok (.aload_n 0, 1) := by decide +kernel
theorem d_NC_init_121 : decode (yB Y_NC_init) 121 = .ok (.new 58, 3) := by decide +kernel
theorem d_NC_init_124 : decode (yB Y_NC_init) 124 = .ok (.dup, 1) := by decide +kernel
theorem d_NC_init_125 : decode (yB Y_NC_init) 125 = .ok (.invokespecial 60, 3) := by decide +kernel
theorem d_NC_init_128 : decode (yB Y_NC_init) 128 = .ok (.putfield 61, 3) := by decide +kernel
theorem d_NC_init_131 : decode (yB Y_NC_init) 131 = .ok (.aload_n 0, 1) := by decide +kernel
theorem d_NC_init_132 : decode (yB Y_NC_init) 132 = .ok (.new 65, 3) := by decide +kernel
theorem d_NC_init_135 : decode (yB Y_NC_init) 135 = .ok (.dup, 1) := by decide +kernel
theorem d_NC_init_136 : decode (yB Y_NC_init) 136 = .ok (.aload_n 0, 1) := by decide +kernel
theorem d_NC_init_137 : decode (yB Y_NC_init) 137 = .ok (.getfield 61, 3) := by decide +kernel
theorem d_NC_init_140 : decode (yB Y_NC_init) 140 = .ok (.invokespecial 67, 3) := by decide +kernel
theorem d_NC_init_143 : decode (yB Y_NC_init) 143 = .ok (.putfield 70, 3) := by decide +kernel
theorem d_NC_init_146 : decode (yB Y_NC_init) 146 = .ok (.aload_n 0, 1) := by decide +kernel
theorem d_NC_init_147 : decode (yB Y_NC_init) 147 = .ok (.new 74, 3) := by decide +kernel
theorem d_NC_init_150 : decode (yB Y_NC_init) 150 = .ok (.dup, 1) := by decide +kernel
theorem d_NC_init_151 : decode (yB Y_NC_init) 151 = .ok (.aload_n 0, 1) := by decide +kernel
theorem d_NC_init_152 : decode (yB Y_NC_init) 152 = .ok (.getfield 61, 3) := by decide +kernel
theorem d_NC_init_155 : decode (yB Y_NC_init) 155 = .ok (.aload_n 0, 1) := by decide +kernel
theorem d_NC_init_156 : decode (yB Y_NC_init) 156 = .ok (.getfield 70, 3) := by decide +kernel
theorem d_NC_init_159 : decode (yB Y_NC_init) 159 = .ok (.invokespecial 76, 3) := by decide +kernel
theorem d_NC_init_162 : decode (yB Y_NC_init) 162 = .ok (.putfield 79, 3) := by decide +kernel
theorem d_NC_init_165 : decode (yB Y_NC_init) 165 = .ok (.aload_n 0, 1) := by decide +kernel
theorem d_NC_init_166 : decode (yB Y_NC_init) 166 = .ok (.new 83, 3) := by decide +kernel
theorem d_NC_init_169 : decode (yB Y_NC_init) 169 = .ok (.dup, 1) := by decide +kernel
theorem d_NC_init_170 : decode (yB Y_NC_init) 170 = .ok (.aload_n 0, 1) := by decide +kernel
theorem d_NC_init_171 : decode (yB Y_NC_init) 171 = .ok (.getfield 61, 3) := by decide +kernel
theorem d_NC_init_174 : decode (yB Y_NC_init) 174 = .ok (.invokespecial 85, 3) := by decide +kernel
theorem d_NC_init_177 : decode (yB Y_NC_init) 177 = .ok (.putfield 86, 3) := by decide +kernel
theorem d_NC_init_180 : decode (yB Y_NC_init) 180 = .ok (.aload_n 0, 1) := by decide +kernel
theorem d_NC_init_181 : decode (yB Y_NC_init) 181 = .ok (.iconst 5, 1) := by decide +kernel
theorem d_NC_init_182 : decode (yB Y_NC_init) 182 = .ok (.newarray .int, 2) := by decide +kernel
theorem d_NC_init_184 : decode (yB Y_NC_init) 184 = .ok (.putfield 90, 3) := by decide +kernel
theorem d_NC_init_187 : decode (yB Y_NC_init) 187 = .ok (.aload_n 0, 1) := by decide +kernel
theorem d_NC_init_188 : decode (yB Y_NC_init) 188 = .ok (.iconst 0, 1) := by decide +kernel
theorem d_NC_init_189 : decode (yB Y_NC_init) 189 = .ok (.putfield 94, 3) := by decide +kernel
theorem d_NC_init_192 : decode (yB Y_NC_init) 192 = .ok (.aload_n 0, 1) := by decide +kernel
theorem d_NC_init_193 : decode (yB Y_NC_init) 193 = .ok (.iconst 0, 1) := by decide +kernel
theorem d_NC_init_194 : decode (yB Y_NC_init) 194 = .ok (.putfield 98, 3) := by decide +kernel
theorem d_NC_init_197 : decode (yB Y_NC_init) 197 = .ok (.aload_n 0, 1) := by decide +kernel
theorem d_NC_init_198 : decode (yB Y_NC_init) 198 = .ok (.iconst 0, 1) := by decide +kernel
theorem d_NC_init_199 : decode (yB Y_NC_init) 199 = .ok (.putfield 102, 3) := by decide +kernel
theorem d_NC_init_202 : decode (yB Y_NC_init) 202 = .ok (.aload_n 0, 1) := by decide +kernel
theorem d_NC_init_203 : decode (yB Y_NC_init) 203 = .ok (.iconst (-1), 1) := by decide +kernel
theorem d_NC_init_204 : decode (yB Y_NC_init) 204 = .ok (.putfield 105, 3) := by decide +kernel
theorem d_NC_init_207 : decode (yB Y_NC_init) 207 = .ok (.aload_n 0, 1) := by decide +kernel
theorem d_NC_init_208 : decode (yB Y_NC_init) 208 = .ok (.iconst (-1), 1) := by decide +kernel
theorem d_NC_init_209 : decode (yB Y_NC_init) 209 = .ok (.putfield 108, 3) := by decide +kernel
theorem d_NC_init_212 : decode (yB Y_NC_init) 212 = .ok (.return_, 1) := by decide +kernel
def F_NC_init (n : Nat) (E : zE) (a0 : Nat) (S : zS) (M : zH) : Option (zS × zH) :=
  (zmkO S M 3).bind fun q_1 =>
  (F_Ni_init n E q_1.1 q_1.2.1 q_1.2.2).bind fun q_2 =>
  (zpR q_2.1 a0 10 0 q_1.1).bind fun S_3 =>
  (zmkA S_3 q_2.2 17 2 2).bind fun q_4 =>
  (zmkO q_4.2.1 q_4.2.2 3).bind fun q_5 =>
  (F_Ni_init n E q_5.1 q_5.2.1 q_5.2.2).bind fun q_6 =>
  (zstR q_6.1 q_6.2 17 3 q_4.1 0 q_5.1).bind fun m_7 =>
  (zmkO q_6.1 m_7 3).bind fun q_8 =>
  (F_Ni_init n E q_8.1 q_8.2.1 q_8.2.2).bind fun q_9 =>
  (zstR q_9.1 q_9.2 17 3 q_4.1 1 q_8.1).bind fun m_10 =>
  (zpR q_9.1 a0 10 1 q_4.1).bind fun S_11 =>
  (zmkA S_11 m_10 13 2 2).bind fun q_12 =>
  (zpR q_12.2.1 a0 10 2 q_12.1).bind fun S_13 =>
  (zmkO S_13 q_12.2.2 3).bind fun q_14 =>
  (F_Ni_init n E q_14.1 q_14.2.1 q_14.2.2).bind fun q_15 =>
  (zpR q_15.1 a0 10 3 q_14.1).bind fun S_16 =>
  (zmkO S_16 q_15.2 3).bind fun q_17 =>
  (F_Ni_init n E q_17.1 q_17.2.1 q_17.2.2).bind fun q_18 =>
  (zpR q_18.1 a0 10 4 q_17.1).bind fun S_19 =>
  (zmkO S_19 q_18.2 6).bind fun q_20 =>
  (F_Pt_init n E q_20.1 q_20.2.1 q_20.2.2).bind fun q_21 =>
  (zpR q_21.1 a0 10 5 q_20.1).bind fun S_22 =>
  (zmkO S_22 q_21.2 6).bind fun q_23 =>
  (F_Pt_init n E q_23.1 q_23.2.1 q_23.2.2).bind fun q_24 =>
  (zpR q_24.1 a0 10 6 q_23.1).bind fun S_25 =>
  (zmkO S_25 q_24.2 8).bind fun q_26 =>
  (F_Ta_init n E q_26.1 q_26.2.1 q_26.2.2).bind fun q_27 =>
  (zpR q_27.1 a0 10 7 q_26.1).bind fun S_28 =>
  (zmkO S_28 q_27.2 5).bind fun q_29 =>
  (zgR q_29.2.1 a0 10 7).bind fun b_30 =>
  (F_Ps_init n E q_29.1 b_30 q_29.2.1 q_29.2.2).bind fun q_31 =>
  (zpR q_31.1 a0 10 8 q_29.1).bind fun S_32 =>
  (zmkO S_32 q_31.2 1).bind fun q_33 =>
  (F_Ju_init n E q_33.1 q_33.2.1 q_33.2.2).bind fun q_34 =>
  (zpR q_34.1 a0 10 9 q_33.1).bind fun S_35 =>
  (zmkO S_35 q_34.2 0).bind fun q_36 =>
  (zgR q_36.2.1 a0 10 9).bind fun b_37 =>
  (F_De_init n E q_36.1 b_37 q_36.2.1 q_36.2.2).bind fun q_38 =>
  (zpR q_38.1 a0 10 10 q_36.1).bind fun S_39 =>
  (zmkO S_39 q_38.2 7).bind fun q_40 =>
  (zgR q_40.2.1 a0 10 9).bind fun b_41 =>
  (zgR q_40.2.1 a0 10 10).bind fun b_42 =>
  (F_Ru_init n E q_40.1 b_41 b_42 q_40.2.1 q_40.2.2).bind fun q_43 =>
  (zpR q_43.1 a0 10 11 q_40.1).bind fun S_44 =>
  (zmkO S_44 q_43.2 4).bind fun q_45 =>
  (zgR q_45.2.1 a0 10 9).bind fun b_46 =>
  (F_Pa_init n E q_45.1 b_46 q_45.2.1 q_45.2.2).bind fun q_47 =>
  (zpR q_47.1 a0 10 12 q_45.1).bind fun S_48 =>
  (zmkA S_48 q_47.2 12 5 5).bind fun q_49 =>
  (zpR q_49.2.1 a0 10 13 q_49.1).bind fun S_50 =>
  (zpZ S_50 q_49.2.2 a0 10 14 0).bind fun m_51 =>
  (zpI S_50 m_51 a0 10 15 0).bind fun m_52 =>
  (zpI S_50 m_52 a0 10 16 0).bind fun m_53 =>
  (zpI S_50 m_53 a0 10 17 (-1)).bind fun m_54 =>
  (zpI S_50 m_54 a0 10 18 (-1)).bind fun m_55 =>
  some (S_50, m_55)
theorem K_NC_init (n : Nat) (E : zE) (a0 : Nat) (S : zS) (M : zH) (S' : zS) (M' : zH)  (h : F_NC_init n E a0 S M = some (S', M')) : zG E Y_NC_init (none, S', M') 0 [(0, .ref a0)] [] S M 0 0 := by
  unfold F_NC_init at h
  refine zi_aload_n 0 d_NC_init_0 rfl ?_
  refine zi_objInit d_NC_init_1 tw_27 tw_28 zobj (by decide) (Nat.le_of_ble_eq_true rfl) ?_
  refine zi_aload_n 0 d_NC_init_4 rfl ?_
  obtain ⟨q_1, eq_1, h⟩ := zbind h
  refine zo_new 8 zkd_3 d_NC_init_5 eq_1 tw_30 tw_31 tw_2 (by decide) (Nat.le_of_ble_eq_true rfl) (Nat.le_of_ble_eq_true rfl) rfl rfl rfl ?_
  refine zi_dup d_NC_init_8 rfl ?_
  obtain ⟨q_2, eq_2, h⟩ := zbind h
  refine zo_init (k' := 12) (n' := 122) 12 [] [.ref q_1.1, .ref a0] (C_Ni_init n E q_1.1 q_1.2.1 q_1.2.2 q_2.1 q_2.2 eq_2) d_NC_init_9 rfl rfl tw_34 tw_32 tw_33 tw_2 dd_Ni_init ⟨Nat.le_of_ble_eq_true rfl, Nat.le_of_ble_eq_true rfl, Nat.le_of_ble_eq_true rfl, Nat.le_of_ble_eq_true rfl⟩ (Nat.le_of_ble_eq_true rfl) rfl rfl rfl ?_
  obtain ⟨S_3, eS_3, h⟩ := zbind h
  refine zo_putR 15 zkd_10 0 d_NC_init_12 eS_3 rfl rfl rfl rfl ⟨rfl, rfl⟩ tw_332 rfl ?_
  refine zi_aload_n 0 d_NC_init_15 rfl ?_
  refine zi_iconst 2 d_NC_init_16 rfl ?_
  obtain ⟨q_4, eq_4, h⟩ := zbind h
  refine zo_anew (pos := 5) 20 d_NC_init_17 eq_4 (by decide) rfl (by decide) tw_30 (by decide) (Nat.le_of_ble_eq_true rfl) (Nat.le_of_ble_eq_true rfl) rfl rfl rfl ?_
  refine zi_dup d_NC_init_20 rfl ?_
  refine zi_iconst 0 d_NC_init_21 rfl ?_
  obtain ⟨q_5, eq_5, h⟩ := zbind h
  refine zo_new 25 zkd_3 d_NC_init_22 eq_5 tw_30 tw_31 tw_2 (by decide) (Nat.le_of_ble_eq_true rfl) (Nat.le_of_ble_eq_true rfl) rfl rfl rfl ?_
  refine zi_dup d_NC_init_25 rfl ?_
  obtain ⟨q_6, eq_6, h⟩ := zbind h
  refine zo_init (k' := 25) (n' := 246) 29 [] [.ref q_5.1, .int 0, .ref q_4.1, .ref q_4.1, .ref a0] (C_Ni_init n E q_5.1 q_5.2.1 q_5.2.2 q_6.1 q_6.2 eq_6) d_NC_init_26 rfl rfl tw_34 tw_32 tw_33 tw_2 dd_Ni_init ⟨Nat.le_of_ble_eq_true rfl, Nat.le_of_ble_eq_true rfl, Nat.le_of_ble_eq_true rfl, Nat.le_of_ble_eq_true rfl⟩ (Nat.le_of_ble_eq_true rfl) rfl rfl rfl ?_
  obtain ⟨m_7, em_7, h⟩ := zbind h
  refine zo_aast 30 d_NC_init_29 em_7 (by decide) rfl ?_
  refine zi_dup d_NC_init_30 rfl ?_
  refine zi_iconst 1 d_NC_init_31 rfl ?_
  obtain ⟨q_8, eq_8, h⟩ := zbind h
  refine zo_new 35 zkd_3 d_NC_init_32 eq_8 tw_30 tw_31 tw_2 (by decide) (Nat.le_of_ble_eq_true rfl) (Nat.le_of_ble_eq_true rfl) rfl rfl rfl ?_
  refine zi_dup d_NC_init_35 rfl ?_
  obtain ⟨q_9, eq_9, h⟩ := zbind h
  refine zo_init (k' := 37) (n' := 368) 39 [] [.ref q_8.1, .int 1, .ref q_4.1, .ref q_4.1, .ref a0] (C_Ni_init n E q_8.1 q_8.2.1 q_8.2.2 q_9.1 q_9.2 eq_9) d_NC_init_36 rfl rfl tw_34 tw_32 tw_33 tw_2 dd_Ni_init ⟨Nat.le_of_ble_eq_true rfl, Nat.le_of_ble_eq_true rfl, Nat.le_of_ble_eq_true rfl, Nat.le_of_ble_eq_true rfl⟩ (Nat.le_of_ble_eq_true rfl) rfl rfl rfl ?_
  obtain ⟨m_10, em_10, h⟩ := zbind h
  refine zo_aast 40 d_NC_init_39 em_10 (by decide) rfl ?_
  obtain ⟨S_11, eS_11, h⟩ := zbind h
  refine zo_putR 43 zkd_10 1 d_NC_init_40 eS_11 rfl rfl rfl rfl ⟨rfl, rfl⟩ tw_333 rfl ?_
  refine zi_aload_n 0 d_NC_init_43 rfl ?_
  refine zi_iconst 2 d_NC_init_44 rfl ?_
  obtain ⟨q_12, eq_12, h⟩ := zbind h
  refine zo_newarr (pos := 1) 47 d_NC_init_45 eq_12 (by decide) rfl rfl (by decide) tw_130 (Nat.le_of_ble_eq_true rfl) (Nat.le_of_ble_eq_true rfl) rfl rfl rfl ?_
  obtain ⟨S_13, eS_13, h⟩ := zbind h
  refine zo_putR 50 zkd_10 2 d_NC_init_47 eS_13 rfl rfl rfl rfl ⟨rfl, rfl⟩ tw_334 rfl ?_
  refine zi_aload_n 0 d_NC_init_50 rfl ?_
  obtain ⟨q_14, eq_14, h⟩ := zbind h
  refine zo_new 54 zkd_3 d_NC_init_51 eq_14 tw_30 tw_31 tw_2 (by decide) (Nat.le_of_ble_eq_true rfl) (Nat.le_of_ble_eq_true rfl) rfl rfl rfl ?_
  refine zi_dup d_NC_init_54 rfl ?_
  obtain ⟨q_15, eq_15, h⟩ := zbind h
  refine zo_init (k' := 50) (n' := 492) 58 [] [.ref q_14.1, .ref a0] (C_Ni_init n E q_14.1 q_14.2.1 q_14.2.2 q_15.1 q_15.2 eq_15) d_NC_init_55 rfl rfl tw_34 tw_32 tw_33 tw_2 dd_Ni_init ⟨Nat.le_of_ble_eq_true rfl, Nat.le_of_ble_eq_true rfl, Nat.le_of_ble_eq_true rfl, Nat.le_of_ble_eq_true rfl⟩ (Nat.le_of_ble_eq_true rfl) rfl rfl rfl ?_
  obtain ⟨S_16, eS_16, h⟩ := zbind h
  refine zo_putR 61 zkd_10 3 d_NC_init_58 eS_16 rfl rfl rfl rfl ⟨rfl, rfl⟩ tw_335 rfl ?_
  refine zi_aload_n 0 d_NC_init_61 rfl ?_
  obtain ⟨q_17, eq_17, h⟩ := zbind h
  refine zo_new 65 zkd_3 d_NC_init_62 eq_17 tw_30 tw_31 tw_2 (by decide) (Nat.le_of_ble_eq_true rfl) (Nat.le_of_ble_eq_true rfl) rfl rfl rfl ?_
  refine zi_dup d_NC_init_65 rfl ?_
  obtain ⟨q_18, eq_18, h⟩ := zbind h
  refine zo_init (k' := 62) (n' := 614) 69 [] [.ref q_17.1, .ref a0] (C_Ni_init n E q_17.1 q_17.2.1 q_17.2.2 q_18.1 q_18.2 eq_18) d_NC_init_66 rfl rfl tw_34 tw_32 tw_33 tw_2 dd_Ni_init ⟨Nat.le_of_ble_eq_true rfl, Nat.le_of_ble_eq_true rfl, Nat.le_of_ble_eq_true rfl, Nat.le_of_ble_eq_true rfl⟩ (Nat.le_of_ble_eq_true rfl) rfl rfl rfl ?_
  obtain ⟨S_19, eS_19, h⟩ := zbind h
  refine zo_putR 72 zkd_10 4 d_NC_init_69 eS_19 rfl rfl rfl rfl ⟨rfl, rfl⟩ tw_336 rfl ?_
  refine zi_aload_n 0 d_NC_init_72 rfl ?_
  obtain ⟨q_20, eq_20, h⟩ := zbind h
  refine zo_new 76 zkd_6 d_NC_init_73 eq_20 tw_132 tw_133 tw_4 (by decide) (Nat.le_of_ble_eq_true rfl) (Nat.le_of_ble_eq_true rfl) rfl rfl rfl ?_
  refine zi_dup d_NC_init_76 rfl ?_
  obtain ⟨q_21, eq_21, h⟩ := zbind h
  refine zo_initN (k' := 64) (n' := 712) 80 [] [.ref q_20.1, .ref a0] (C_Pt_init n E q_20.1 q_20.2.1 q_20.2.2 q_21.1 q_21.2 eq_21) d_NC_init_77 rfl rfl tw_136 (List.mem_of_getElem? (i := 0) rfl) tw_135 tw_4 dd_Pt_init ⟨Nat.le_of_ble_eq_true rfl, Nat.le_of_ble_eq_true rfl, Nat.le_of_ble_eq_true rfl, Nat.le_of_ble_eq_true rfl⟩ (Nat.le_of_ble_eq_true rfl) rfl rfl rfl ?_
  obtain ⟨S_22, eS_22, h⟩ := zbind h
  refine zo_putR 83 zkd_10 5 d_NC_init_80 eS_22 rfl rfl rfl rfl ⟨rfl, rfl⟩ tw_337 rfl ?_
  refine zi_aload_n 0 d_NC_init_83 rfl ?_
  obtain ⟨q_23, eq_23, h⟩ := zbind h
  refine zo_new 87 zkd_6 d_NC_init_84 eq_23 tw_132 tw_133 tw_4 (by decide) (Nat.le_of_ble_eq_true rfl) (Nat.le_of_ble_eq_true rfl) rfl rfl rfl ?_
  refine zi_dup d_NC_init_87 rfl ?_
  obtain ⟨q_24, eq_24, h⟩ := zbind h
  refine zo_initN (k' := 66) (n' := 810) 91 [] [.ref q_23.1, .ref a0] (C_Pt_init n E q_23.1 q_23.2.1 q_23.2.2 q_24.1 q_24.2 eq_24) d_NC_init_88 rfl rfl tw_136 (List.mem_of_getElem? (i := 0) rfl) tw_135 tw_4 dd_Pt_init ⟨Nat.le_of_ble_eq_true rfl, Nat.le_of_ble_eq_true rfl, Nat.le_of_ble_eq_true rfl, Nat.le_of_ble_eq_true rfl⟩ (Nat.le_of_ble_eq_true rfl) rfl rfl rfl ?_
  obtain ⟨S_25, eS_25, h⟩ := zbind h
  refine zo_putR 94 zkd_10 6 d_NC_init_91 eS_25 rfl rfl rfl rfl ⟨rfl, rfl⟩ tw_338 rfl ?_
  refine zi_aload_n 0 d_NC_init_94 rfl ?_
  obtain ⟨q_26, eq_26, h⟩ := zbind h
  refine zo_new 98 zkd_8 d_NC_init_95 eq_26 tw_146 tw_147 tw_5 (by decide) (Nat.le_of_ble_eq_true rfl) (Nat.le_of_ble_eq_true rfl) rfl rfl rfl ?_
  refine zi_dup d_NC_init_98 rfl ?_
  obtain ⟨q_27, eq_27, h⟩ := zbind h
  refine zo_initN (k' := 68) (n' := 1216) 102 [] [.ref q_26.1, .ref a0] (C_Ta_init n E q_26.1 q_26.2.1 q_26.2.2 q_27.1 q_27.2 eq_27) d_NC_init_99 rfl rfl tw_150 (List.mem_of_getElem? (i := 1) rfl) tw_149 tw_5 dd_Ta_init ⟨Nat.le_of_ble_eq_true rfl, Nat.le_of_ble_eq_true rfl, Nat.le_of_ble_eq_true rfl, Nat.le_of_ble_eq_true rfl⟩ (Nat.le_of_ble_eq_true rfl) rfl rfl rfl ?_
  obtain ⟨S_28, eS_28, h⟩ := zbind h
  refine zo_putR 105 zkd_10 7 d_NC_init_102 eS_28 rfl rfl rfl rfl ⟨rfl, rfl⟩ tw_339 rfl ?_
  refine zi_aload_n 0 d_NC_init_105 rfl ?_
  obtain ⟨q_29, eq_29, h⟩ := zbind h
  refine zo_new 109 zkd_5 d_NC_init_106 eq_29 tw_173 tw_174 tw_6 (by decide) (Nat.le_of_ble_eq_true rfl) (Nat.le_of_ble_eq_true rfl) rfl rfl rfl ?_
  refine zi_dup d_NC_init_109 rfl ?_
  refine zi_aload_n 0 d_NC_init_110 rfl ?_
  obtain ⟨b_30, eb_30, h⟩ := zbind h
  refine zo_getR 114 zkd_10 7 d_NC_init_111 eb_30 rfl tw_339 rfl ?_
  obtain ⟨q_31, eq_31, h⟩ := zbind h
  refine zo_init (k' := 75) (n' := 1711) 117 [.ref b_30] [.ref q_29.1, .ref a0] (C_Ps_init n E q_29.1 b_30 q_29.2.1 q_29.2.2 q_31.1 q_31.2 eq_31) d_NC_init_114 rfl rfl tw_177 tw_175 tw_176 tw_6 dd_Ps_init ⟨Nat.le_of_ble_eq_true rfl, Nat.le_of_ble_eq_true rfl, Nat.le_of_ble_eq_true rfl, Nat.le_of_ble_eq_true rfl⟩ (Nat.le_of_ble_eq_true rfl) rfl rfl rfl ?_
  obtain ⟨S_32, eS_32, h⟩ := zbind h
  refine zo_putR 120 zkd_10 8 d_NC_init_117 eS_32 rfl rfl rfl rfl ⟨rfl, rfl⟩ tw_340 rfl ?_
  refine zi_aload_n 0 d_NC_init_120 rfl ?_
  obtain ⟨q_33, eq_33, h⟩ := zbind h
  refine zo_new 124 zkd_1 d_NC_init_121 eq_33 tw_229 tw_230 tw_8 (by decide) (Nat.le_of_ble_eq_true rfl) (Nat.le_of_ble_eq_true rfl) rfl rfl rfl ?_
  refine zi_dup d_NC_init_124 rfl ?_
  obtain ⟨q_34, eq_34, h⟩ := zbind h
  refine zo_initN (k' := 79) (n' := 1787) 128 [] [.ref q_33.1, .ref a0] (C_Ju_init n E q_33.1 q_33.2.1 q_33.2.2 q_34.1 q_34.2 eq_34) d_NC_init_125 rfl rfl tw_233 (List.mem_of_getElem? (i := 2) rfl) tw_232 tw_8 dd_Ju_init ⟨Nat.le_of_ble_eq_true rfl, Nat.le_of_ble_eq_true rfl, Nat.le_of_ble_eq_true rfl, Nat.le_of_ble_eq_true rfl⟩ (Nat.le_of_ble_eq_true rfl) rfl rfl rfl ?_
  obtain ⟨S_35, eS_35, h⟩ := zbind h
  refine zo_putR 131 zkd_10 9 d_NC_init_128 eS_35 rfl rfl rfl rfl ⟨rfl, rfl⟩ tw_341 rfl ?_
  refine zi_aload_n 0 d_NC_init_131 rfl ?_
  obtain ⟨q_36, eq_36, h⟩ := zbind h
  refine zo_new 135 zkd_0 d_NC_init_132 eq_36 tw_252 tw_253 tw_10 (by decide) (Nat.le_of_ble_eq_true rfl) (Nat.le_of_ble_eq_true rfl) rfl rfl rfl ?_
  refine zi_dup d_NC_init_135 rfl ?_
  refine zi_aload_n 0 d_NC_init_136 rfl ?_
  obtain ⟨b_37, eb_37, h⟩ := zbind h
  refine zo_getR 140 zkd_10 9 d_NC_init_137 eb_37 rfl tw_341 rfl ?_
  obtain ⟨q_38, eq_38, h⟩ := zbind h
  refine zo_init (k' := 80) (n' := 1788) 143 [.ref b_37] [.ref q_36.1, .ref a0] (C_De_init n E q_36.1 b_37 q_36.2.1 q_36.2.2 q_38.1 q_38.2 eq_38) d_NC_init_140 rfl rfl tw_256 tw_254 tw_255 tw_10 dd_De_init ⟨Nat.le_of_ble_eq_true rfl, Nat.le_of_ble_eq_true rfl, Nat.le_of_ble_eq_true rfl, Nat.le_of_ble_eq_true rfl⟩ (Nat.le_of_ble_eq_true rfl) rfl rfl rfl ?_
  obtain ⟨S_39, eS_39, h⟩ := zbind h
  refine zo_putR 146 zkd_10 10 d_NC_init_143 eS_39 rfl rfl rfl rfl ⟨rfl, rfl⟩ tw_342 rfl ?_
  refine zi_aload_n 0 d_NC_init_146 rfl ?_
  obtain ⟨q_40, eq_40, h⟩ := zbind h
  refine zo_new 150 zkd_7 d_NC_init_147 eq_40 tw_262 tw_263 tw_11 (by decide) (Nat.le_of_ble_eq_true rfl) (Nat.le_of_ble_eq_true rfl) rfl rfl rfl ?_
  refine zi_dup d_NC_init_150 rfl ?_
  refine zi_aload_n 0 d_NC_init_151 rfl ?_
  obtain ⟨b_41, eb_41, h⟩ := zbind h
  refine zo_getR 155 zkd_10 9 d_NC_init_152 eb_41 rfl tw_341 rfl ?_
  refine zi_aload_n 0 d_NC_init_155 rfl ?_
  obtain ⟨b_42, eb_42, h⟩ := zbind h
  refine zo_getR 159 zkd_10 10 d_NC_init_156 eb_42 rfl tw_342 rfl ?_
  obtain ⟨q_43, eq_43, h⟩ := zbind h
  refine zo_init (k' := 84) (n' := 1878) 162 [.ref b_41, .ref b_42] [.ref q_40.1, .ref a0] (C_Ru_init n E q_40.1 b_41 b_42 q_40.2.1 q_40.2.2 q_43.1 q_43.2 eq_43) d_NC_init_159 rfl rfl tw_266 tw_264 tw_265 tw_11 dd_Ru_init ⟨Nat.le_of_ble_eq_true rfl, Nat.le_of_ble_eq_true rfl, Nat.le_of_ble_eq_true rfl, Nat.le_of_ble_eq_true rfl⟩ (Nat.le_of_ble_eq_true rfl) rfl rfl rfl ?_
  obtain ⟨S_44, eS_44, h⟩ := zbind h
  refine zo_putR 165 zkd_10 11 d_NC_init_162 eS_44 rfl rfl rfl rfl ⟨rfl, rfl⟩ tw_343 rfl ?_
  refine zi_aload_n 0 d_NC_init_165 rfl ?_
  obtain ⟨q_45, eq_45, h⟩ := zbind h
  refine zo_new 169 zkd_4 d_NC_init_166 eq_45 tw_290 tw_291 tw_12 (by decide) (Nat.le_of_ble_eq_true rfl) (Nat.le_of_ble_eq_true rfl) rfl rfl rfl ?_
  refine zi_dup d_NC_init_169 rfl ?_
  refine zi_aload_n 0 d_NC_init_170 rfl ?_
  obtain ⟨b_46, eb_46, h⟩ := zbind h
  refine zo_getR 174 zkd_10 9 d_NC_init_171 eb_46 rfl tw_341 rfl ?_
  obtain ⟨q_47, eq_47, h⟩ := zbind h
  refine zo_init (k' := 103) (n' := 3295) 177 [.ref b_46] [.ref q_45.1, .ref a0] (C_Pa_init n E q_45.1 b_46 q_45.2.1 q_45.2.2 q_47.1 q_47.2 eq_47) d_NC_init_174 rfl rfl tw_294 tw_292 tw_293 tw_12 dd_Pa_init ⟨Nat.le_of_ble_eq_true rfl, Nat.le_of_ble_eq_true rfl, Nat.le_of_ble_eq_true rfl, Nat.le_of_ble_eq_true rfl⟩ (Nat.le_of_ble_eq_true rfl) rfl rfl rfl ?_
  obtain ⟨S_48, eS_48, h⟩ := zbind h
  refine zo_putR 180 zkd_10 12 d_NC_init_177 eS_48 rfl rfl rfl rfl ⟨rfl, rfl⟩ tw_344 rfl ?_
  refine zi_aload_n 0 d_NC_init_180 rfl ?_
  refine zi_iconst 5 d_NC_init_181 rfl ?_
  obtain ⟨q_49, eq_49, h⟩ := zbind h
  refine zo_newarr (pos := 0) 184 d_NC_init_182 eq_49 (by decide) rfl rfl (by decide) tw_129 (Nat.le_of_ble_eq_true rfl) (Nat.le_of_ble_eq_true rfl) rfl rfl rfl ?_
  obtain ⟨S_50, eS_50, h⟩ := zbind h
  refine zo_putR 187 zkd_10 13 d_NC_init_184 eS_50 rfl rfl rfl rfl ⟨rfl, rfl⟩ tw_345 rfl ?_
  refine zi_aload_n 0 d_NC_init_187 rfl ?_
  refine zi_iconst 0 d_NC_init_188 rfl ?_
  obtain ⟨m_51, em_51, h⟩ := zbind h
  refine zo_putZ 192 zkd_10 14 d_NC_init_189 em_51 rfl rfl rfl tw_346 rfl ?_
  refine zi_aload_n 0 d_NC_init_192 rfl ?_
  refine zi_iconst 0 d_NC_init_193 rfl ?_
  obtain ⟨m_52, em_52, h⟩ := zbind h
  refine zo_putI 197 zkd_10 15 d_NC_init_194 em_52 rfl rfl rfl tw_347 rfl ?_
  refine zi_aload_n 0 d_NC_init_197 rfl ?_
  refine zi_iconst 0 d_NC_init_198 rfl ?_
  obtain ⟨m_53, em_53, h⟩ := zbind h
  refine zo_putI 202 zkd_10 16 d_NC_init_199 em_53 rfl rfl rfl tw_348 rfl ?_
  refine zi_aload_n 0 d_NC_init_202 rfl ?_
  refine zi_iconst (-1) d_NC_init_203 rfl ?_
  obtain ⟨m_54, em_54, h⟩ := zbind h
  refine zo_putI 207 zkd_10 17 d_NC_init_204 em_54 rfl rfl rfl tw_349 rfl ?_
  refine zi_aload_n 0 d_NC_init_207 rfl ?_
  refine zi_iconst (-1) d_NC_init_208 rfl ?_
  obtain ⟨m_55, em_55, h⟩ := zbind h
  refine zo_putI 212 zkd_10 18 d_NC_init_209 em_55 rfl rfl rfl tw_350 rfl ?_
  cases h
  exact zo_ret d_NC_init_212 (Nat.le_of_ble_eq_true rfl) (Nat.le_of_ble_eq_true rfl) rfl
theorem C_NC_init (n : Nat) (E : zE) (a0 : Nat) (S : zS) (M : zH) (S' : zS) (M' : zH) (h : F_NC_init n E a0 S M = some (S', M')) : zC E Y_NC_init [.ref a0] S M (none, S', M') :=
  zC.of (Or.inl (show plainName "NightColander" = true by decide)) (Nat.le_of_ble_eq_true rfl) (trivial) (K_NC_init n E a0 S M S' M' h)
theorem d_NC_within_0 : decode (yB Y_NC_within) 0 = .ok (.iload_n 0, 1) := by decide +kernel
theorem d_NC_within_1 : decode (yB Y_NC_within) 1 = .ok (.iload_n 1, 1) := by decide +kernel
theorem d_NC_within_2 : decode (yB Y_NC_within) 2 = .ok (.if_icmp .lt 12, 3) := by decide +kernel
theorem d_NC_within_5 : decode (yB Y_NC_within) 5 = .ok (.iload_n 0, 1) := by decide +kernel
theorem d_NC_within_6 : decode (yB Y_NC_within) 6 = .ok (.iload_n 2, 1) := by decide +kernel
theorem d_NC_within_7 : decode (yB Y_NC_within) 7 = .ok (.if_icmp .gt 7, 3) := by decide +kernel
theorem d_NC_within_10 : decode (yB Y_NC_within) 10 = .ok (.iconst 1, 1) := by decide +kernel
theorem d_NC_within_11 : decode (yB Y_NC_within) 11 = .ok (.goto 4, 3) := by decide +kernel
theorem d_NC_within_14 : decode (yB Y_NC_within) 14 = .ok (.iconst 0, 1) := by decide +kernel
theorem d_NC_within_15 : decode (yB Y_NC_within) 15 = .ok (.ireturn, 1) := by decide +kernel
def F_NC_within (n : Nat) (E : zE) (S : zS) (x0 : Int32) (x1 : Int32) (x2 : Int32) (M : zH) : Option (Bool × zH) :=
  if x0 < x1 then
    some (false, M)
  else
    if x2 < x0 then
      some (false, M)
    else
      some (true, M)
theorem K_NC_within (n : Nat) (E : zE) (S : zS) (x0 : Int32) (x1 : Int32) (x2 : Int32) (M : zH) (r : Bool) (M' : zH)  (h : F_NC_within n E S x0 x1 x2 M = some (r, M')) : zG E Y_NC_within (some (.int (bI r)), S, M') 0 [(0, .int x0), (1, .int x1), (2, .int x2)] [] S M 0 0 := by
  unfold F_NC_within at h
  refine zi_iload_n 0 d_NC_within_0 rfl ?_
  refine zi_iload_n 1 d_NC_within_1 rfl ?_
  refine zi_icmp_lt (tgt := 14) d_NC_within_2 rfl (fun c_1 => ?_) (fun c_1 => ?_)
  · rw [if_pos c_1] at h
    refine zi_iconst 0 d_NC_within_14 rfl ?_
    cases h
    exact zo_retB d_NC_within_15 (Nat.le_of_ble_eq_true rfl) (Nat.le_of_ble_eq_true rfl) rfl
  · rw [if_neg c_1] at h
    refine zi_iload_n 0 d_NC_within_5 rfl ?_
    refine zi_iload_n 2 d_NC_within_6 rfl ?_
    refine zi_icmp_gt (tgt := 14) d_NC_within_7 rfl (fun c_2 => ?_) (fun c_2 => ?_)
    · rw [if_pos c_2] at h
      refine zi_iconst 0 d_NC_within_14 rfl ?_
      cases h
      exact zo_retB d_NC_within_15 (Nat.le_of_ble_eq_true rfl) (Nat.le_of_ble_eq_true rfl) rfl
    · rw [if_neg c_2] at h
      refine zi_iconst 1 d_NC_within_10 rfl ?_
      refine zi_goto (tgt := 15) d_NC_within_11 rfl ?_
      cases h
      exact zo_retB d_NC_within_15 (Nat.le_of_ble_eq_true rfl) (Nat.le_of_ble_eq_true rfl) rfl
theorem C_NC_within (n : Nat) (E : zE) (S : zS) (x0 : Int32) (x1 : Int32) (x2 : Int32) (M : zH) (r : Bool) (M' : zH) (h : F_NC_within n E S x0 x1 x2 M = some (r, M')) : zC E Y_NC_within [.int x0, .int x1, .int x2] S M (some (.int (bI r)), S, M') :=
  zC.of (Or.inl (show plainName "NightColander" = true by decide)) (Nat.le_of_ble_eq_true rfl) (bI_nar r) (K_NC_within n E S x0 x1 x2 M r M' h)
theorem d_NC_isHole_0 : decode (yB Y_NC_isHole) 0 = .ok (.iload_n 0, 1) := by decide +kernel
theorem d_NC_isHole_1 : decode (yB Y_NC_isHole) 1 = .ok (.iconst 0, 1) := by decide +kernel
theorem d_NC_isHole_2 : decode (yB Y_NC_isHole) 2 = .ok (.bipush 7, 2) := by decide +kernel
theorem d_NC_isHole_4 : decode (yB Y_NC_isHole) 4 = .ok (.invokestatic 132, 3) := by decide +kernel
theorem d_NC_isHole_7 : decode (yB Y_NC_isHole) 7 = .ok (.ireturn, 1) := by decide +kernel
def F_NC_isHole (n : Nat) (E : zE) (S : zS) (x0 : Int32) (M : zH) : Option (Bool × zH) :=
  (F_NC_within n E S x0 0 7 M).bind fun q_1 =>
  some (q_1.1, q_1.2)
theorem K_NC_isHole (n : Nat) (E : zE) (S : zS) (x0 : Int32) (M : zH) (r : Bool) (M' : zH)  (h : F_NC_isHole n E S x0 M = some (r, M')) : zG E Y_NC_isHole (some (.int (bI r)), S, M') 0 [(0, .int x0)] [] S M 0 0 := by
  unfold F_NC_isHole at h
  refine zi_iload_n 0 d_NC_isHole_0 rfl ?_
  refine zi_iconst 0 d_NC_isHole_1 rfl ?_
  refine zi_bipush 7 d_NC_isHole_2 rfl ?_
  obtain ⟨q_1, eq_1, h⟩ := zbind h
  refine zo_stat (k' := 0) (n' := 0) 7 [.int x0, .int 0, .int 7] [] [.int (bI q_1.1)] (C_NC_within n E S x0 0 7 M q_1.1 q_1.2 eq_1) d_NC_isHole_4 tw_399 tw_397 tw_398 tw_1 dd_NC_within ⟨Nat.le_of_ble_eq_true rfl, Nat.le_of_ble_eq_true rfl, Nat.le_of_ble_eq_true rfl, Nat.le_of_ble_eq_true rfl⟩ (Nat.le_of_ble_eq_true rfl) rfl rfl rfl rfl ?_
  cases h
  exact zo_retB d_NC_isHole_7 (Nat.le_of_ble_eq_true rfl) (Nat.le_of_ble_eq_true rfl) rfl
theorem C_NC_isHole (n : Nat) (E : zE) (S : zS) (x0 : Int32) (M : zH) (r : Bool) (M' : zH) (h : F_NC_isHole n E S x0 M = some (r, M')) : zC E Y_NC_isHole [.int x0] S M (some (.int (bI r)), S, M') :=
  zC.of (Or.inl (show plainName "NightColander" = true by decide)) (Nat.le_of_ble_eq_true rfl) (bI_nar r) (K_NC_isHole n E S x0 M r M' h)
theorem d_NC_isRing_0 : decode (yB Y_NC_isRing) 0 = .ok (.iload_n 0, 1) := by decide +kernel
theorem d_NC_isRing_1 : decode (yB Y_NC_isRing) 1 = .ok (.iconst 0, 1) := by decide +kernel
theorem d_NC_isRing_2 : decode (yB Y_NC_isRing) 2 = .ok (.iconst 3, 1) := by decide +kernel
theorem d_NC_isRing_3 : decode (yB Y_NC_isRing) 3 = .ok (.invokestatic 132, 3) := by decide +kernel
theorem d_NC_isRing_6 : decode (yB Y_NC_isRing) 6 = .ok (.ireturn, 1) := by decide +kernel
def F_NC_isRing (n : Nat) (E : zE) (S : zS) (x0 : Int32) (M : zH) : Option (Bool × zH) :=
  (F_NC_within n E S x0 0 3 M).bind fun q_1 =>
  some (q_1.1, q_1.2)
theorem K_NC_isRing (n : Nat) (E : zE) (S : zS) (x0 : Int32) (M : zH) (r : Bool) (M' : zH)  (h : F_NC_isRing n E S x0 M = some (r, M')) : zG E Y_NC_isRing (some (.int (bI r)), S, M') 0 [(0, .int x0)] [] S M 0 0 := by
  unfold F_NC_isRing at h
  refine zi_iload_n 0 d_NC_isRing_0 rfl ?_
  refine zi_iconst 0 d_NC_isRing_1 rfl ?_
  refine zi_iconst 3 d_NC_isRing_2 rfl ?_
  obtain ⟨q_1, eq_1, h⟩ := zbind h
  refine zo_stat (k' := 0) (n' := 0) 6 [.int x0, .int 0, .int 3] [] [.int (bI q_1.1)] (C_NC_within n E S x0 0 3 M q_1.1 q_1.2 eq_1) d_NC_isRing_3 tw_399 tw_397 tw_398 tw_1 dd_NC_within ⟨Nat.le_of_ble_eq_true rfl, Nat.le_of_ble_eq_true rfl, Nat.le_of_ble_eq_true rfl, Nat.le_of_ble_eq_true rfl⟩ (Nat.le_of_ble_eq_true rfl) rfl rfl rfl rfl ?_
  cases h
  exact zo_retB d_NC_isRing_6 (Nat.le_of_ble_eq_true rfl) (Nat.le_of_ble_eq_true rfl) rfl
theorem C_NC_isRing (n : Nat) (E : zE) (S : zS) (x0 : Int32) (M : zH) (r : Bool) (M' : zH) (h : F_NC_isRing n E S x0 M = some (r, M')) : zC E Y_NC_isRing [.int x0] S M (some (.int (bI r)), S, M') :=
  zC.of (Or.inl (show plainName "NightColander" = true by decide)) (Nat.le_of_ble_eq_true rfl) (bI_nar r) (K_NC_isRing n E S x0 M r M' h)
theorem d_Mc_work_0 : decode (yB Y_Mc_work) 0 = .ok (.iconst (-1), 1) := by decide +kernel
theorem d_Mc_work_1 : decode (yB Y_Mc_work) 1 = .ok (.istore 5, 2) := by decide +kernel
theorem d_Mc_work_3 : decode (yB Y_Mc_work) 3 = .ok (.iload_n 3, 1) := by decide +kernel
theorem d_Mc_work_4 : decode (yB Y_Mc_work) 4 = .ok (.aload_n 1, 1) := by decide +kernel
theorem d_Mc_work_5 : decode (yB Y_Mc_work) 5 = .ok (.getfield 15, 3) := by decide +kernel
theorem d_Mc_work_8 : decode (yB Y_Mc_work) 8 = .ok (.if_icmp .ge 7, 3) := by decide +kernel
theorem d_Mc_work_11 : decode (yB Y_Mc_work) 11 = .ok (.iload_n 3, 1) := by decide +kernel
theorem d_Mc_work_12 : decode (yB Y_Mc_work) 12 = .ok (.goto 7, 3) := by decide +kernel
theorem d_Mc_work_15 : decode (yB Y_Mc_work) 15 = .ok (.aload_n 1, 1) := by decide +kernel
theorem d_Mc_work_16 : decode (yB Y_Mc_work) 16 = .ok (.getfield 15, 3) := by decide +kernel
theorem d_Mc_work_19 : decode (yB Y_Mc_work) 19 = .ok (.istore 6, 2) := by decide +kernel
theorem d_Mc_work_21 : decode (yB Y_Mc_work) 21 = .ok (.iload_n 2, 1) := by decide +kernel
theorem d_Mc_work_22 : decode (yB Y_Mc_work) 22 = .ok (.ifCond .le 7, 3) := by decide +kernel
theorem d_Mc_work_25 : decode (yB Y_Mc_work) 25 = .ok (.iload_n 2, 1) := by decide +kernel
theorem d_Mc_work_26 : decode (yB Y_Mc_work) 26 = .ok (.goto 4, 3) := by decide +kernel
theorem d_Mc_work_29 : decode (yB Y_Mc_work) 29 = .ok (.iconst 0, 1) := by decide +kernel
theorem d_Mc_work_30 : decode (yB Y_Mc_work) 30 = .ok (.istore 7, 2) := by decide +kernel
theorem d_Mc_work_32 : decode (yB Y_Mc_work) 32 = .ok (.iload 7, 2) := by decide +kernel
theorem d_Mc_work_34 : decode (yB Y_Mc_work) 34 = .ok (.iload 6, 2) := by decide +kernel
theorem d_Mc_work_36 : decode (yB Y_Mc_work) 36 = .ok (.if_icmp .ge 427, 3) := by decide +kernel
theorem d_Mc_work_39 : decode (yB Y_Mc_work) 39 = .ok (.aload_n 1, 1) := by decide +kernel
theorem d_Mc_work_40 : decode (yB Y_Mc_work) 40 = .ok (.getfield 21, 3) := by decide +kernel
theorem d_Mc_work_43 : decode (yB Y_Mc_work) 43 = .ok (.iload 7, 2) := by decide +kernel
theorem d_Mc_work_45 : decode (yB Y_Mc_work) 45 = .ok (.iaload, 1) := by decide +kernel
theorem d_Mc_work_46 : decode (yB Y_Mc_work) 46 = .ok (.bipush 15, 2) := by decide +kernel
theorem d_Mc_work_48 : decode (yB Y_Mc_work) 48 = .ok (.iand, 1) := by decide +kernel
theorem d_Mc_work_49 : decode (yB Y_Mc_work) 49 = .ok (.istore 8, 2) := by decide +kernel
theorem d_Mc_work_51 : decode (yB Y_Mc_work) 51 = .ok (.aload_n 1, 1) := by decide +kernel
theorem d_Mc_work_52 : decode (yB Y_Mc_work) 52 = .ok (.getfield 21, 3) := by decide +kernel
theorem d_Mc_work_55 : decode (yB Y_Mc_work) 55 = .ok (.iload 7, 2) := by decide +kernel
theorem d_Mc_work_57 : decode (yB Y_Mc_work) 57 = .ok (.iaload, 1) := by decide +kernel
theorem d_Mc_work_58 : decode (yB Y_Mc_work) 58 = .ok (.iconst 4, 1) := by decide +kernel
theorem d_Mc_work_59 : decode (yB Y_Mc_work) 59 = .ok (.ishr, 1) := by decide +kernel
theorem d_Mc_work_60 : decode (yB Y_Mc_work) 60 = .ok (.istore 9, 2) := by decide +kernel
theorem d_Mc_work_62 : decode (yB Y_Mc_work) 62 = .ok (.iload 8, 2) := by decide +kernel
theorem d_Mc_work_64 : decode (yB Y_Mc_work) 64 = .ok (.ifCond .eq 9, 3) := by decide +kernel
theorem d_Mc_work_67 : decode (yB Y_Mc_work) 67 = .ok (.iload 8, 2) := by decide +kernel
theorem d_Mc_work_69 : decode (yB Y_Mc_work) 69 = .ok (.iconst 1, 1) := by decide +kernel
theorem d_Mc_work_70 : decode (yB Y_Mc_work) 70 = .ok (.if_icmp .ne 64, 3) := by decide +kernel
theorem d_Mc_work_73 : decode (yB Y_Mc_work) 73 = .ok (.iinc 5 1, 3) := by decide +kernel
theorem d_Mc_work_76 : decode (yB Y_Mc_work) 76 = .ok (.iload 5, 2) := by decide +kernel
theorem d_Mc_work_78 : decode (yB Y_Mc_work) 78 = .ok (.aload_n 0, 1) := by decide +kernel
theorem d_Mc_work_79 : decode (yB Y_Mc_work) 79 = .ok (.getfield 9, 3) := by decide +kernel
theorem d_Mc_work_82 : decode (yB Y_Mc_work) 82 = .ok (.arraylength, 1) := by decide +kernel
theorem d_Mc_work_83 : decode (yB Y_Mc_work) 83 = .ok (.if_icmp .ge 22, 3) := by decide +kernel
theorem d_Mc_work_86 : decode (yB Y_Mc_work) 86 = .ok (.iload 9, 2) := by decide +kernel
theorem d_Mc_work_88 : decode (yB Y_Mc_work) 88 = .ok (.ifCond .lt 17, 3) := by decide +kernel
theorem d_Mc_work_91 : decode (yB Y_Mc_work) 91 = .ok (.iload 8, 2) := by decide +kernel
theorem d_Mc_work_93 : decode (yB Y_Mc_work) 93 = .ok (.iconst 1, 1) := by decide +kernel
theorem d_Mc_work_94 : decode (yB Y_Mc_work) 94 = .ok (.if_icmp .ne 14, 3) := by decide +kernel
theorem d_Mc_work_97 : decode (yB Y_Mc_work) 97 = .ok (.iload 9, 2) := by decide +kernel
theorem d_Mc_work_99 : decode (yB Y_Mc_work) 99 = .ok (.aload 4, 2) := by decide +kernel
theorem d_Mc_work_101 : decode (yB Y_Mc_work) 101 = .ok (.arraylength, 1) := by decide +kernel
theorem d_Mc_work_102 : decode (yB Y_Mc_work) 102 = .ok (.if_icmp .lt 6, 3) := by decide +kernel
theorem d_Mc_work_105 : decode (yB Y_Mc_work) 105 = .ok (.ldc 24, 2) := by decide +kernel
theorem d_Mc_work_107 : decode (yB Y_Mc_work) 107 = .ok (.ireturn, 1) := by decide +kernel
theorem d_Mc_work_108 : decode (yB Y_Mc_work) 108 = .ok (.aload_n 0, 1) := by decide +kernel
theorem d_Mc_work_109 : decode (yB Y_Mc_work) 109 = .ok (.getfield 9, 3) := by decide +kernel
theorem d_Mc_work_112 : decode (yB Y_Mc_work) 112 = .ok (.iload 5, 2) := by decide +kernel
theorem d_Mc_work_114 : decode (yB Y_Mc_work) 114 = .ok (.iload 8, 2) := by decide +kernel
theorem d_Mc_work_116 : decode (yB Y_Mc_work) 116 = .ok (.iconst 1, 1) := by decide +kernel
theorem d_Mc_work_117 : decode (yB Y_Mc_work) 117 = .ok (.if_icmp .ne 11, 3) := by decide +kernel
theorem d_Mc_work_120 : decode (yB Y_Mc_work) 120 = .ok (.aload 4, 2) := by decide +kernel
theorem d_Mc_work_122 : decode (yB Y_Mc_work) 122 = .ok (.iload 9, 2) := by decide +kernel
theorem d_Mc_work_124 : decode (yB Y_Mc_work) 124 = .ok (.iaload, 1) := by decide +kernel
theorem d_Mc_work_125 : decode (yB Y_Mc_work) 125 = .ok (.goto 5, 3) := by decide +kernel
theorem d_Mc_work_128 : decode (yB Y_Mc_work) 128 = .ok (.iload 9, 2) := by decide +kernel
theorem d_Mc_work_130 : decode (yB Y_Mc_work) 130 = .ok (.iastore, 1) := by decide +kernel
theorem d_Mc_work_131 : decode (yB Y_Mc_work) 131 = .ok (.goto 326, 3) := by decide +kernel
theorem d_Mc_work_134 : decode (yB Y_Mc_work) 134 = .ok (.iload 5, 2) := by decide +kernel
theorem d_Mc_work_136 : decode (yB Y_Mc_work) 136 = .ok (.iload 8, 2) := by decide +kernel
theorem d_Mc_work_138 : decode (yB Y_Mc_work) 138 = .ok (.iconst 4, 1) := by decide +kernel
theorem d_Mc_work_139 : decode (yB Y_Mc_work) 139 = .ok (.if_icmp .gt 7, 3) := by decide +kernel
theorem d_Mc_work_142 : decode (yB Y_Mc_work) 142 = .ok (.iconst 0, 1) := by decide +kernel
theorem d_Mc_work_143 : decode (yB Y_Mc_work) 143 = .ok (.goto 4, 3) := by decide +kernel
theorem d_Mc_work_146 : decode (yB Y_Mc_work) 146 = .ok (.iconst 1, 1) := by decide +kernel
theorem d_Mc_work_147 : decode (yB Y_Mc_work) 147 = .ok (.if_icmp .ge 6, 3) := by decide +kernel
theorem d_Mc_work_150 : decode (yB Y_Mc_work) 150 = .ok (.ldc 24, 2) := by decide +kernel
theorem d_Mc_work_152 : decode (yB Y_Mc_work) 152 = .ok (.ireturn, 1) := by decide +kernel
theorem d_Mc_work_153 : decode (yB Y_Mc_work) 153 = .ok (.aload_n 0, 1) := by decide +kernel
theorem d_Mc_work_154 : decode (yB Y_Mc_work) 154 = .ok (.getfield 9, 3) := by decide +kernel
theorem d_Mc_work_157 : decode (yB Y_Mc_work) 157 = .ok (.iload 5, 2) := by decide +kernel
theorem d_Mc_work_159 : decode (yB Y_Mc_work) 159 = .ok (.iaload, 1) := by decide +kernel
theorem d_Mc_work_160 : decode (yB Y_Mc_work) 160 = .ok (.i2l, 1) := by decide +kernel
theorem d_Mc_work_161 : decode (yB Y_Mc_work) 161 = .ok (.lstore 10, 2) := by decide +kernel
theorem d_Mc_work_163 : decode (yB Y_Mc_work) 163 = .ok (.iload 5, 2) := by decide +kernel
theorem d_Mc_work_165 : decode (yB Y_Mc_work) 165 = .ok (.ifCond .le 16, 3) := by decide +kernel
theorem d_Mc_work_168 : decode (yB Y_Mc_work) 168 = .ok (.aload_n 0, 1) := by decide +kernel
theorem d_Mc_work_169 : decode (yB Y_Mc_work) 169 = .ok (.getfield 9, 3) := by decide +kernel
theorem d_Mc_work_172 : decode (yB Y_Mc_work) 172 = .ok (.iload 5, 2) := by decide +kernel
theorem d_Mc_work_174 : decode (yB Y_Mc_work) 174 = .ok (.iconst 1, 1) := by decide +kernel
theorem d_Mc_work_175 : decode (yB Y_Mc_work) 175 = .ok (.isub, 1) := by decide +kernel
theorem d_Mc_work_176 : decode (yB Y_Mc_work) 176 = .ok (.iaload, 1) := by decide +kernel
theorem d_Mc_work_177 : decode (yB Y_Mc_work) 177 = .ok (.i2l, 1) := by decide +kernel
theorem d_Mc_work_178 : decode (yB Y_Mc_work) 178 = .ok (.goto 4, 3) := by decide +kernel
theorem d_Mc_work_181 : decode (yB Y_Mc_work) 181 = .ok (.lconst 0, 1) := by decide +kernel
theorem d_Mc_work_182 : decode (yB Y_Mc_work) 182 = .ok (.lstore 12, 2) := by decide +kernel
theorem d_Mc_work_184 : decode (yB Y_Mc_work) 184 = .ok (.iload 8, 2) := by decide +kernel
theorem d_Mc_work_186 : decode (yB Y_Mc_work) 186 = .ok (.tableswitch 204 2 10 #[50, 72, 72, 117, 117, 141, 151, 151, 186], 50) := by decide +kernel
theorem d_Mc_work_236 : decode (yB Y_Mc_work) 236 = .ok (.aload_n 0, 1) := by decide +kernel
theorem d_Mc_work_237 : decode (yB Y_Mc_work) 237 = .ok (.getfield 9, 3) := by decide +kernel
theorem d_Mc_work_240 : decode (yB Y_Mc_work) 240 = .ok (.iload 5, 2) := by decide +kernel
theorem d_Mc_work_242 : decode (yB Y_Mc_work) 242 = .ok (.lload 10, 2) := by decide +kernel
theorem d_Mc_work_244 : decode (yB Y_Mc_work) 244 = .ok (.lconst 0, 1) := by decide +kernel
theorem d_Mc_work_245 : decode (yB Y_Mc_work) 245 = .ok (.lcmp, 1) := by decide +kernel
theorem d_Mc_work_246 : decode (yB Y_Mc_work) 246 = .ok (.ifCond .ne 7, 3) := by decide +kernel
theorem d_Mc_work_249 : decode (yB Y_Mc_work) 249 = .ok (.iconst 1, 1) := by decide +kernel
theorem d_Mc_work_250 : decode (yB Y_Mc_work) 250 = .ok (.goto 4, 3) := by decide +kernel
theorem d_Mc_work_253 : decode (yB Y_Mc_work) 253 = .ok (.iconst 0, 1) := by decide +kernel
theorem d_Mc_work_254 : decode (yB Y_Mc_work) 254 = .ok (.iastore, 1) := by decide +kernel
theorem d_Mc_work_255 : decode (yB Y_Mc_work) 255 = .ok (.goto 202, 3) := by decide +kernel
theorem d_Mc_work_258 : decode (yB Y_Mc_work) 258 = .ok (.lload 10, 2) := by decide +kernel
theorem d_Mc_work_260 : decode (yB Y_Mc_work) 260 = .ok (.iload 8, 2) := by decide +kernel
theorem d_Mc_work_262 : decode (yB Y_Mc_work) 262 = .ok (.iconst 4, 1) := by decide +kernel
theorem d_Mc_work_263 : decode (yB Y_Mc_work) 263 = .ok (.if_icmp .ne 7, 3) := by decide +kernel
theorem d_Mc_work_266 : decode (yB Y_Mc_work) 266 = .ok (.iconst 1, 1) := by decide +kernel
theorem d_Mc_work_267 : decode (yB Y_Mc_work) 267 = .ok (.goto 4, 3) := by decide +kernel
theorem d_Mc_work_270 : decode (yB Y_Mc_work) 270 = .ok (.iconst 0, 1) := by decide +kernel
theorem d_Mc_work_271 : decode (yB Y_Mc_work) 271 = .ok (.i2l, 1) := by decide +kernel
theorem d_Mc_work_272 : decode (yB Y_Mc_work) 272 = .ok (.lcmp, 1) := by decide +kernel
theorem d_Mc_work_273 : decode (yB Y_Mc_work) 273 = .ok (.ifCond .ne 24, 3) := by decide +kernel
theorem d_Mc_work_276 : decode (yB Y_Mc_work) 276 = .ok (.iload 9, 2) := by decide +kernel
theorem d_Mc_work_278 : decode (yB Y_Mc_work) 278 = .ok (.iload 7, 2) := by decide +kernel
theorem d_Mc_work_280 : decode (yB Y_Mc_work) 280 = .ok (.if_icmp .le 10, 3) := by decide +kernel
theorem d_Mc_work_283 : decode (yB Y_Mc_work) 283 = .ok (.iload 9, 2) := by decide +kernel
theorem d_Mc_work_285 : decode (yB Y_Mc_work) 285 = .ok (.iconst 1, 1) := by decide +kernel
theorem d_Mc_work_286 : decode (yB Y_Mc_work) 286 = .ok (.isub, 1) := by decide +kernel
theorem d_Mc_work_287 : decode (yB Y_Mc_work) 287 = .ok (.goto 5, 3) := by decide +kernel
theorem d_Mc_work_290 : decode (yB Y_Mc_work) 290 = .ok (.iload 7, 2) := by decide +kernel
theorem d_Mc_work_292 : decode (yB Y_Mc_work) 292 = .ok (.istore 7, 2) := by decide +kernel
theorem d_Mc_work_294 : decode (yB Y_Mc_work) 294 = .ok (.goto 163, 3) := by decide +kernel
theorem d_Mc_work_297 : decode (yB Y_Mc_work) 297 = .ok (.iinc 5 (-1), 3) := by decide +kernel
theorem d_Mc_work_300 : decode (yB Y_Mc_work) 300 = .ok (.goto 157, 3) := by decide +kernel
theorem d_Mc_work_303 : decode (yB Y_Mc_work) 303 = .ok (.iload 8, 2) := by decide +kernel
theorem d_Mc_work_305 : decode (yB Y_Mc_work) 305 = .ok (.iconst 5, 1) := by decide +kernel
theorem d_Mc_work_306 : decode (yB Y_Mc_work) 306 = .ok (.if_icmp .ne 11, 3) := by decide +kernel
theorem d_Mc_work_309 : decode (yB Y_Mc_work) 309 = .ok (.lload 12, 2) := by decide +kernel
theorem d_Mc_work_311 : decode (yB Y_Mc_work) 311 = .ok (.lload 10, 2) := by decide +kernel
theorem d_Mc_work_313 : decode (yB Y_Mc_work) 313 = .ok (.ladd, 1) := by decide +kernel
theorem d_Mc_work_314 : decode (yB Y_Mc_work) 314 = .ok (.goto 8, 3) := by decide +kernel
theorem d_Mc_work_317 : decode (yB Y_Mc_work) 317 = .ok (.lload 12, 2) := by decide +kernel
theorem d_Mc_work_319 : decode (yB Y_Mc_work) 319 = .ok (.lload 10, 2) := by decide +kernel
theorem d_Mc_work_321 : decode (yB Y_Mc_work) 321 = .ok (.lsub, 1) := by decide +kernel
theorem d_Mc_work_322 : decode (yB Y_Mc_work) 322 = .ok (.lstore 14, 2) := by decide +kernel
theorem d_Mc_work_324 : decode (yB Y_Mc_work) 324 = .ok (.goto 99, 3) := by decide +kernel
theorem d_Mc_work_327 : decode (yB Y_Mc_work) 327 = .ok (.lload 12, 2) := by decide +kernel
theorem d_Mc_work_329 : decode (yB Y_Mc_work) 329 = .ok (.lload 10, 2) := by decide +kernel
theorem d_Mc_work_331 : decode (yB Y_Mc_work) 331 = .ok (.lmul, 1) := by decide +kernel
theorem d_Mc_work_332 : decode (yB Y_Mc_work) 332 = .ok (.lstore 14, 2) := by decide +kernel
theorem d_Mc_work_334 : decode (yB Y_Mc_work) 334 = .ok (.goto 89, 3) := by decide +kernel
theorem d_Mc_work_337 : decode (yB Y_Mc_work) 337 = .ok (.lload 10, 2) := by decide +kernel
theorem d_Mc_work_339 : decode (yB Y_Mc_work) 339 = .ok (.lconst 0, 1) := by decide +kernel
theorem d_Mc_work_340 : decode (yB Y_Mc_work) 340 = .ok (.lcmp, 1) := by decide +kernel
theorem d_Mc_work_341 : decode (yB Y_Mc_work) 341 = .ok (.ifCond .ne 6, 3) := by decide +kernel
theorem d_Mc_work_344 : decode (yB Y_Mc_work) 344 = .ok (.ldc 24, 2) := by decide +kernel
theorem d_Mc_work_346 : decode (yB Y_Mc_work) 346 = .ok (.ireturn, 1) := by decide +kernel
theorem d_Mc_work_347 : decode (yB Y_Mc_work) 347 = .ok (.iload 8, 2) := by decide +kernel
theorem d_Mc_work_349 : decode (yB Y_Mc_work) 349 = .ok (.bipush 9, 2) := by decide +kernel
theorem d_Mc_work_351 : decode (yB Y_Mc_work) 351 = .ok (.if_icmp .ne 11, 3) := by decide +kernel
theorem d_Mc_work_354 : decode (yB Y_Mc_work) 354 = .ok (.lload 12, 2) := by decide +kernel
theorem d_Mc_work_356 : decode (yB Y_Mc_work) 356 = .ok (.lload 10, 2) := by decide +kernel
theorem d_Mc_work_358 : decode (yB Y_Mc_work) 358 = .ok (.lrem, 1) := by decide +kernel
theorem d_Mc_work_359 : decode (yB Y_Mc_work) 359 = .ok (.goto 8, 3) := by decide +kernel
theorem d_Mc_work_362 : decode (yB Y_Mc_work) 362 = .ok (.lload 12, 2) := by decide +kernel
theorem d_Mc_work_364 : decode (yB Y_Mc_work) 364 = .ok (.lload 10, 2) := by decide +kernel
theorem d_Mc_work_366 : decode (yB Y_Mc_work) 366 = .ok (.ldiv, 1) := by decide +kernel
theorem d_Mc_work_367 : decode (yB Y_Mc_work) 367 = .ok (.lstore 14, 2) := by decide +kernel
theorem d_Mc_work_369 : decode (yB Y_Mc_work) 369 = .ok (.goto 54, 3) := by decide +kernel
theorem d_Mc_work_372 : decode (yB Y_Mc_work) 372 = .ok (.lload 12, 2) := by decide +kernel
theorem d_Mc_work_374 : decode (yB Y_Mc_work) 374 = .ok (.lload 10, 2) := by decide +kernel
theorem d_Mc_work_376 : decode (yB Y_Mc_work) 376 = .ok (.lcmp, 1) := by decide +kernel
theorem d_Mc_work_377 : decode (yB Y_Mc_work) 377 = .ok (.ifCond .ge 7, 3) := by decide +kernel
theorem d_Mc_work_380 : decode (yB Y_Mc_work) 380 = .ok (.lconst 1, 1) := by decide +kernel
theorem d_Mc_work_381 : decode (yB Y_Mc_work) 381 = .ok (.goto 4, 3) := by decide +kernel
theorem d_Mc_work_384 : decode (yB Y_Mc_work) 384 = .ok (.lconst 0, 1) := by decide +kernel
theorem d_Mc_work_385 : decode (yB Y_Mc_work) 385 = .ok (.lstore 14, 2) := by decide +kernel
theorem d_Mc_work_387 : decode (yB Y_Mc_work) 387 = .ok (.goto 36, 3) := by decide +kernel
theorem d_Mc_work_390 : decode (yB Y_Mc_work) 390 = .ok (.iload 8, 2) := by decide +kernel
theorem d_Mc_work_392 : decode (yB Y_Mc_work) 392 = .ok (.bipush 11, 2) := by decide +kernel
theorem d_Mc_work_394 : decode (yB Y_Mc_work) 394 = .ok (.if_icmp .ne 14, 3) := by decide +kernel
theorem d_Mc_work_397 : decode (yB Y_Mc_work) 397 = .ok (.lload 12, 2) := by decide +kernel
theorem d_Mc_work_399 : decode (yB Y_Mc_work) 399 = .ok (.lload 10, 2) := by decide +kernel
theorem d_Mc_work_401 : decode (yB Y_Mc_work) 401 = .ok (.lcmp, 1) := by decide +kernel
theorem d_Mc_work_402 : decode (yB Y_Mc_work) 402 = .ok (.ifCond .le 18, 3) := by decide +kernel
theorem d_Mc_work_405 : decode (yB Y_Mc_work) 405 = .ok (.goto 11, 3) := by decide +kernel
theorem d_Mc_work_408 : decode (yB Y_Mc_work) 408 = .ok (.lload 12, 2) := by decide +kernel
theorem d_Mc_work_410 : decode (yB Y_Mc_work) 410 = .ok (.lload 10, 2) := by decide +kernel
theorem d_Mc_work_412 : decode (yB Y_Mc_work) 412 = .ok (.lcmp, 1) := by decide +kernel
theorem d_Mc_work_413 : decode (yB Y_Mc_work) 413 = .ok (.ifCond .ne 7, 3) := by decide +kernel
theorem d_Mc_work_416 : decode (yB Y_Mc_work) 416 = .ok (.lconst 1, 1) := by decide +kernel
theorem d_Mc_work_417 : decode (yB Y_Mc_work) 417 = .ok (.goto 4, 3) := by decide +kernel
theorem d_Mc_work_420 : decode (yB Y_Mc_work) 420 = .ok (.lconst 0, 1) := by decide +kernel
theorem d_Mc_work_421 : decode (yB Y_Mc_work) 421 = .ok (.lstore 14, 2) := by decide +kernel
theorem d_Mc_work_423 : decode (yB Y_Mc_work) 423 = .ok (.lload 14, 2) := by decide +kernel
theorem d_Mc_work_425 : decode (yB Y_Mc_work) 425 = .ok (.ldc2_w 25, 3) := by decide +kernel
theorem d_Mc_work_428 : decode (yB Y_Mc_work) 428 = .ok (.lcmp, 1) := by decide +kernel
theorem d_Mc_work_429 : decode (yB Y_Mc_work) 429 = .ok (.ifCond .gt 12, 3) := by decide +kernel
theorem d_Mc_work_432 : decode (yB Y_Mc_work) 432 = .ok (.lload 14, 2) := by decide +kernel
theorem d_Mc_work_434 : decode (yB Y_Mc_work) 434 = .ok (.ldc2_w 27, 3) := by decide +kernel
theorem d_Mc_work_437 : decode (yB Y_Mc_work) 437 = .ok (.lcmp, 1) := by decide +kernel
theorem d_Mc_work_438 : decode (yB Y_Mc_work) 438 = .ok (.ifCond .ge 6, 3) := by decide +kernel
theorem d_Mc_work_441 : decode (yB Y_Mc_work) 441 = .ok (.ldc 24, 2) := by decide +kernel
theorem d_Mc_work_443 : decode (yB Y_Mc_work) 443 = .ok (.ireturn, 1) := by decide +kernel
theorem d_Mc_work_444 : decode (yB Y_Mc_work) 444 = .ok (.iinc 5 (-1), 3) := by decide +kernel
theorem d_Mc_work_447 : decode (yB Y_Mc_work) 447 = .ok (.aload_n 0, 1) := by decide +kernel
theorem d_Mc_work_448 : decode (yB Y_Mc_work) 448 = .ok (.getfield 9, 3) := by decide +kernel
theorem d_Mc_work_451 : decode (yB Y_Mc_work) 451 = .ok (.iload 5, 2) := by decide +kernel
theorem d_Mc_work_453 : decode (yB Y_Mc_work) 453 = .ok (.lload 14, 2) := by decide +kernel
theorem d_Mc_work_455 : decode (yB Y_Mc_work) 455 = .ok (.l2i, 1) := by decide +kernel
theorem d_Mc_work_456 : decode (yB Y_Mc_work) 456 = .ok (.iastore, 1) := by decide +kernel
theorem d_Mc_work_457 : decode (yB Y_Mc_work) 457 = .ok (.iinc 7 1, 3) := by decide +kernel
theorem d_Mc_work_460 : decode (yB Y_Mc_work) 460 = .ok (.goto (-428), 3) := by decide +kernel
theorem d_Mc_work_463 : decode (yB Y_Mc_work) 463 = .ok (.iload 5, 2) := by decide +kernel
theorem d_Mc_work_465 : decode (yB Y_Mc_work) 465 = .ok (.ifCond .ne 12, 3) := by decide +kernel
theorem d_Mc_work_468 : decode (yB Y_Mc_work) 468 = .ok (.aload_n 0, 1) := by decide +kernel
theorem d_Mc_work_469 : decode (yB Y_Mc_work) 469 = .ok (.getfield 9, 3) := by decide +kernel
theorem d_Mc_work_472 : decode (yB Y_Mc_work) 472 = .ok (.iconst 0, 1) := by decide +kernel
theorem d_Mc_work_473 : decode (yB Y_Mc_work) 473 = .ok (.iaload, 1) := by decide +kernel
theorem d_Mc_work_474 : decode (yB Y_Mc_work) 474 = .ok (.goto 5, 3) := by decide +kernel
theorem d_Mc_work_477 : decode (yB Y_Mc_work) 477 = .ok (.ldc 24, 2) := by decide +kernel
theorem d_Mc_work_479 : decode (yB Y_Mc_work) 479 = .ok (.ireturn, 1) := by decide +kernel
def F_Mc_work_b105 (n : Nat) (E : zE) (S : zS)  (M : zH) : Option (Int32 × zH) :=
  some ((-2147483648), M)
def F_Mc_work_b457 (n : Nat) (E : zE) (S : zS) (r32 : Nat × Nat × Nat × Int32 × Int32 × Int32 × zH → Option (Int32 × zH)) (a0 : Nat) (a1 : Nat) (a4 : Nat) (x5 : Int32) (x6 : Int32) (x7 : Int32) (M : zH) : Option (Int32 × zH) :=
  r32 (a0, a1, a4, x5, x6, x7 + 1, M)
def F_Mc_work_b130 (n : Nat) (E : zE) (S : zS) (r32 : Nat × Nat × Nat × Int32 × Int32 × Int32 × zH → Option (Int32 × zH)) (a0 : Nat) (a1 : Nat) (a4 : Nat) (x5 : Int32) (x6 : Int32) (x7 : Int32) (s0 : Int32) (s1 : Int32) (u2 : Nat) (M : zH) : Option (Int32 × zH) :=
  (zstI S M u2 s1 s0).bind fun m_1 =>
  F_Mc_work_b457 n E S r32 a0 a1 a4 x5 x6 x7 m_1
def F_Mc_work_b108 (n : Nat) (E : zE) (S : zS) (r32 : Nat × Nat × Nat × Int32 × Int32 × Int32 × zH → Option (Int32 × zH)) (a0 : Nat) (a1 : Nat) (a4 : Nat) (x5 : Int32) (x6 : Int32) (x7 : Int32) (x8 : Int32) (x9 : Int32) (M : zH) : Option (Int32 × zH) :=
  (zgR S a0 2 0).bind fun b_2 =>
  if x8 = 1 then
    (zldI S M a4 x9).bind fun v_4 =>
    F_Mc_work_b130 n E S r32 a0 a1 a4 x5 x6 x7 v_4 x5 b_2 M
  else
    F_Mc_work_b130 n E S r32 a0 a1 a4 x5 x6 x7 x9 x5 b_2 M
def F_Mc_work_b73 (n : Nat) (E : zE) (S : zS) (r32 : Nat × Nat × Nat × Int32 × Int32 × Int32 × zH → Option (Int32 × zH)) (a0 : Nat) (a1 : Nat) (a4 : Nat) (x5 : Int32) (x6 : Int32) (x7 : Int32) (x8 : Int32) (x9 : Int32) (M : zH) : Option (Int32 × zH) :=
  (zgR S a0 2 0).bind fun b_5 =>
  (zlen S 12 b_5).bind fun v_6 =>
  if v_6 ≤ (x5 + 1) then
    F_Mc_work_b105 n E S  M
  else
    if x9 < 0 then
      F_Mc_work_b105 n E S  M
    else
      if x8 = 1 then
        (zlen S 12 a4).bind fun v_10 =>
        if x9 < v_10 then
          F_Mc_work_b108 n E S r32 a0 a1 a4 (x5 + 1) x6 x7 x8 x9 M
        else
          F_Mc_work_b105 n E S  M
      else
        F_Mc_work_b108 n E S r32 a0 a1 a4 (x5 + 1) x6 x7 x8 x9 M
def F_Mc_work_b254 (n : Nat) (E : zE) (S : zS) (r32 : Nat × Nat × Nat × Int32 × Int32 × Int32 × zH → Option (Int32 × zH)) (a0 : Nat) (a1 : Nat) (a4 : Nat) (x5 : Int32) (x6 : Int32) (x7 : Int32) (s0 : Int32) (s1 : Int32) (u2 : Nat) (M : zH) : Option (Int32 × zH) :=
  (zstI S M u2 s1 s0).bind fun m_12 =>
  F_Mc_work_b457 n E S r32 a0 a1 a4 x5 x6 x7 m_12
def F_Mc_work_b292 (n : Nat) (E : zE) (S : zS) (r32 : Nat × Nat × Nat × Int32 × Int32 × Int32 × zH → Option (Int32 × zH)) (a0 : Nat) (a1 : Nat) (a4 : Nat) (x5 : Int32) (x6 : Int32) (s0 : Int32) (M : zH) : Option (Int32 × zH) :=
  F_Mc_work_b457 n E S r32 a0 a1 a4 x5 x6 s0 M
def F_Mc_work_b271 (n : Nat) (E : zE) (S : zS) (r32 : Nat × Nat × Nat × Int32 × Int32 × Int32 × zH → Option (Int32 × zH)) (a0 : Nat) (a1 : Nat) (a4 : Nat) (x5 : Int32) (x6 : Int32) (x7 : Int32) (x9 : Int32) (s0 : Int32) (t1 : Int64) (M : zH) : Option (Int32 × zH) :=
  if t1 = s0.toInt64 then
    if x9 ≤ x7 then
      F_Mc_work_b292 n E S r32 a0 a1 a4 x5 x6 x7 M
    else
      F_Mc_work_b292 n E S r32 a0 a1 a4 x5 x6 (x9 - 1) M
  else
    F_Mc_work_b457 n E S r32 a0 a1 a4 (x5 + (-1)) x6 x7 M
def F_Mc_work_b441 (n : Nat) (E : zE) (S : zS)  (M : zH) : Option (Int32 × zH) :=
  some ((-2147483648), M)
def F_Mc_work_b423 (n : Nat) (E : zE) (S : zS) (r32 : Nat × Nat × Nat × Int32 × Int32 × Int32 × zH → Option (Int32 × zH)) (a0 : Nat) (a1 : Nat) (a4 : Nat) (x5 : Int32) (x6 : Int32) (x7 : Int32) (y14 : Int64) (M : zH) : Option (Int32 × zH) :=
  if 1000000000 < y14 then
    F_Mc_work_b441 n E S  M
  else
    if (-1000000000) ≤ y14 then
      (zgR S a0 2 0).bind fun b_17 =>
      (zstI S M b_17 (x5 + (-1)) y14.toInt32).bind fun m_18 =>
      F_Mc_work_b457 n E S r32 a0 a1 a4 (x5 + (-1)) x6 x7 m_18
    else
      F_Mc_work_b441 n E S  M
def F_Mc_work_b322 (n : Nat) (E : zE) (S : zS) (r32 : Nat × Nat × Nat × Int32 × Int32 × Int32 × zH → Option (Int32 × zH)) (a0 : Nat) (a1 : Nat) (a4 : Nat) (x5 : Int32) (x6 : Int32) (x7 : Int32) (t0 : Int64) (M : zH) : Option (Int32 × zH) :=
  F_Mc_work_b423 n E S r32 a0 a1 a4 x5 x6 x7 t0 M
def F_Mc_work_b367 (n : Nat) (E : zE) (S : zS) (r32 : Nat × Nat × Nat × Int32 × Int32 × Int32 × zH → Option (Int32 × zH)) (a0 : Nat) (a1 : Nat) (a4 : Nat) (x5 : Int32) (x6 : Int32) (x7 : Int32) (t0 : Int64) (M : zH) : Option (Int32 × zH) :=
  F_Mc_work_b423 n E S r32 a0 a1 a4 x5 x6 x7 t0 M
def F_Mc_work_b385 (n : Nat) (E : zE) (S : zS) (r32 : Nat × Nat × Nat × Int32 × Int32 × Int32 × zH → Option (Int32 × zH)) (a0 : Nat) (a1 : Nat) (a4 : Nat) (x5 : Int32) (x6 : Int32) (x7 : Int32) (t0 : Int64) (M : zH) : Option (Int32 × zH) :=
  F_Mc_work_b423 n E S r32 a0 a1 a4 x5 x6 x7 t0 M
def F_Mc_work_b421 (n : Nat) (E : zE) (S : zS) (r32 : Nat × Nat × Nat × Int32 × Int32 × Int32 × zH → Option (Int32 × zH)) (a0 : Nat) (a1 : Nat) (a4 : Nat) (x5 : Int32) (x6 : Int32) (x7 : Int32) (t0 : Int64) (M : zH) : Option (Int32 × zH) :=
  F_Mc_work_b423 n E S r32 a0 a1 a4 x5 x6 x7 t0 M
def F_Mc_work_b416 (n : Nat) (E : zE) (S : zS) (r32 : Nat × Nat × Nat × Int32 × Int32 × Int32 × zH → Option (Int32 × zH)) (a0 : Nat) (a1 : Nat) (a4 : Nat) (x5 : Int32) (x6 : Int32) (x7 : Int32) (M : zH) : Option (Int32 × zH) :=
  F_Mc_work_b421 n E S r32 a0 a1 a4 x5 x6 x7 1 M
def F_Mc_work_b420 (n : Nat) (E : zE) (S : zS) (r32 : Nat × Nat × Nat × Int32 × Int32 × Int32 × zH → Option (Int32 × zH)) (a0 : Nat) (a1 : Nat) (a4 : Nat) (x5 : Int32) (x6 : Int32) (x7 : Int32) (M : zH) : Option (Int32 × zH) :=
  F_Mc_work_b421 n E S r32 a0 a1 a4 x5 x6 x7 0 M
def F_Mc_work_b182 (n : Nat) (E : zE) (S : zS) (r32 : Nat × Nat × Nat × Int32 × Int32 × Int32 × zH → Option (Int32 × zH)) (a0 : Nat) (a1 : Nat) (a4 : Nat) (x5 : Int32) (x6 : Int32) (x7 : Int32) (x8 : Int32) (x9 : Int32) (y10 : Int64) (t0 : Int64) (M : zH) : Option (Int32 × zH) :=
  if x8 = 2 then
    (zgR S a0 2 0).bind fun b_20 =>
    if y10 = 0 then
      F_Mc_work_b254 n E S r32 a0 a1 a4 x5 x6 x7 1 x5 b_20 M
    else
      F_Mc_work_b254 n E S r32 a0 a1 a4 x5 x6 x7 0 x5 b_20 M
  else
  if x8 = 3 then
    if x8 = 4 then
      F_Mc_work_b271 n E S r32 a0 a1 a4 x5 x6 x7 x9 1 y10 M
    else
      F_Mc_work_b271 n E S r32 a0 a1 a4 x5 x6 x7 x9 0 y10 M
  else
  if x8 = 4 then
    if x8 = 4 then
      F_Mc_work_b271 n E S r32 a0 a1 a4 x5 x6 x7 x9 1 y10 M
    else
      F_Mc_work_b271 n E S r32 a0 a1 a4 x5 x6 x7 x9 0 y10 M
  else
  if x8 = 5 then
    if x8 = 5 then
      F_Mc_work_b322 n E S r32 a0 a1 a4 x5 x6 x7 (t0 + y10) M
    else
      F_Mc_work_b322 n E S r32 a0 a1 a4 x5 x6 x7 (t0 - y10) M
  else
  if x8 = 6 then
    if x8 = 5 then
      F_Mc_work_b322 n E S r32 a0 a1 a4 x5 x6 x7 (t0 + y10) M
    else
      F_Mc_work_b322 n E S r32 a0 a1 a4 x5 x6 x7 (t0 - y10) M
  else
  if x8 = 7 then
    F_Mc_work_b423 n E S r32 a0 a1 a4 x5 x6 x7 (t0 * y10) M
  else
  if x8 = 8 then
    if y10 = 0 then
      some ((-2147483648), M)
    else
      if x8 = 9 then
        (zremJ t0 y10).bind fun v_34 =>
        F_Mc_work_b367 n E S r32 a0 a1 a4 x5 x6 x7 v_34 M
      else
        (zdivJ t0 y10).bind fun v_35 =>
        F_Mc_work_b367 n E S r32 a0 a1 a4 x5 x6 x7 v_35 M
  else
  if x8 = 9 then
    if y10 = 0 then
      some ((-2147483648), M)
    else
      if x8 = 9 then
        (zremJ t0 y10).bind fun v_39 =>
        F_Mc_work_b367 n E S r32 a0 a1 a4 x5 x6 x7 v_39 M
      else
        (zdivJ t0 y10).bind fun v_40 =>
        F_Mc_work_b367 n E S r32 a0 a1 a4 x5 x6 x7 v_40 M
  else
  if x8 = 10 then
    if y10 ≤ t0 then
      F_Mc_work_b385 n E S r32 a0 a1 a4 x5 x6 x7 0 M
    else
      F_Mc_work_b385 n E S r32 a0 a1 a4 x5 x6 x7 1 M
  else
    if x8 = 11 then
      if t0 ≤ y10 then
        F_Mc_work_b420 n E S r32 a0 a1 a4 x5 x6 x7 M
      else
        F_Mc_work_b416 n E S r32 a0 a1 a4 x5 x6 x7 M
    else
      if t0 = y10 then
        F_Mc_work_b416 n E S r32 a0 a1 a4 x5 x6 x7 M
      else
        F_Mc_work_b420 n E S r32 a0 a1 a4 x5 x6 x7 M
def F_Mc_work_b147 (n : Nat) (E : zE) (S : zS) (r32 : Nat × Nat × Nat × Int32 × Int32 × Int32 × zH → Option (Int32 × zH)) (a0 : Nat) (a1 : Nat) (a4 : Nat) (x5 : Int32) (x6 : Int32) (x7 : Int32) (x8 : Int32) (x9 : Int32) (s0 : Int32) (s1 : Int32) (M : zH) : Option (Int32 × zH) :=
  if s0 ≤ s1 then
    (zgR S a0 2 0).bind fun b_47 =>
    (zldI S M b_47 x5).bind fun v_48 =>
    if x5 ≤ 0 then
      F_Mc_work_b182 n E S r32 a0 a1 a4 x5 x6 x7 x8 x9 v_48.toInt64 0 M
    else
      (zldI S M b_47 (x5 - 1)).bind fun v_50 =>
      F_Mc_work_b182 n E S r32 a0 a1 a4 x5 x6 x7 x8 x9 v_48.toInt64 v_50.toInt64 M
  else
    some ((-2147483648), M)
def F_Mc_work_L32 (n : Nat) (E : zE) (S : zS) (r32 : Nat × Nat × Nat × Int32 × Int32 × Int32 × zH → Option (Int32 × zH)) (a0 : Nat) (a1 : Nat) (a4 : Nat) (x5 : Int32) (x6 : Int32) (x7 : Int32) (M : zH) : Option (Int32 × zH) :=
  if x6 ≤ x7 then
    if x5 = 0 then
      (zgR S a0 2 0).bind fun b_53 =>
      (zldI S M b_53 0).bind fun v_54 =>
      some (v_54, M)
    else
      some ((-2147483648), M)
  else
    (zgR S a1 9 0).bind fun b_55 =>
    (zldI S M b_55 x7).bind fun v_56 =>
    (zldI S M b_55 x7).bind fun v_57 =>
    if (v_56 &&& (15 : Int32)) = 0 then
      F_Mc_work_b73 n E S r32 a0 a1 a4 x5 x6 x7 (v_56 &&& (15 : Int32)) (v_57 >>> ((4 : Int32) &&& (31 : Int32))) M
    else
      if (v_56 &&& (15 : Int32)) = 1 then
        F_Mc_work_b73 n E S r32 a0 a1 a4 x5 x6 x7 (v_56 &&& (15 : Int32)) (v_57 >>> ((4 : Int32) &&& (31 : Int32))) M
      else
        if 4 < (v_56 &&& (15 : Int32)) then
          F_Mc_work_b147 n E S r32 a0 a1 a4 x5 x6 x7 (v_56 &&& (15 : Int32)) (v_57 >>> ((4 : Int32) &&& (31 : Int32))) 1 x5 M
        else
          F_Mc_work_b147 n E S r32 a0 a1 a4 x5 x6 x7 (v_56 &&& (15 : Int32)) (v_57 >>> ((4 : Int32) &&& (31 : Int32))) 0 x5 M
def F_Mc_work_b32 (n : Nat) (E : zE) (S : zS) : Nat × Nat × Nat × Int32 × Int32 × Int32 × zH → Option (Int32 × zH) := zfix (fun r32 s => F_Mc_work_L32 n E S r32 s.1 s.2.1 s.2.2.1 s.2.2.2.1 s.2.2.2.2.1 s.2.2.2.2.2.1 s.2.2.2.2.2.2) n
def F_Mc_work_b30 (n : Nat) (E : zE) (S : zS) (a0 : Nat) (a1 : Nat) (a4 : Nat) (x5 : Int32) (x6 : Int32) (s0 : Int32) (M : zH) : Option (Int32 × zH) :=
  F_Mc_work_b32 n E S (a0, a1, a4, x5, x6, s0, M)
def F_Mc_work_b19 (n : Nat) (E : zE) (S : zS) (a0 : Nat) (a1 : Nat) (x2 : Int32) (a4 : Nat) (x5 : Int32) (s0 : Int32) (M : zH) : Option (Int32 × zH) :=
  if x2 ≤ 0 then
    F_Mc_work_b30 n E S a0 a1 a4 x5 s0 0 M
  else
    F_Mc_work_b30 n E S a0 a1 a4 x5 s0 x2 M
def F_Mc_work (n : Nat) (E : zE) (S : zS) (a0 : Nat) (a1 : Nat) (x2 : Int32) (x3 : Int32) (a4 : Nat) (M : zH) : Option (Int32 × zH) :=
  (zgI S M a1 9 5).bind fun v_62 =>
  if v_62 ≤ x3 then
    (zgI S M a1 9 5).bind fun v_64 =>
    F_Mc_work_b19 n E S a0 a1 x2 a4 (-1) v_64 M
  else
    F_Mc_work_b19 n E S a0 a1 x2 a4 (-1) x3 M
theorem K_Mc_work_b105 (n : Nat) (E : zE) (S : zS)  (M : zH) (r : Int32) (M' : zH)  (h : F_Mc_work_b105 n E S  M = some (r, M')) : zG E Y_Mc_work (some (.int r), S, M') 105 [] [] S M 0 0 := by
  unfold F_Mc_work_b105 at h
  refine zi_ldc d_Mc_work_105 tw_431 ?_
  cases h
  exact zo_ret d_Mc_work_107 (Nat.le_of_ble_eq_true rfl) (Nat.le_of_ble_eq_true rfl) rfl
theorem K_Mc_work_b457 (n : Nat) (E : zE) (S : zS) (r32 : Nat × Nat × Nat × Int32 × Int32 × Int32 × zH → Option (Int32 × zH)) (a0 : Nat) (a1 : Nat) (a4 : Nat) (x5 : Int32) (x6 : Int32) (x7 : Int32) (M : zH) (r : Int32) (M' : zH) (hr32 : ∀ (a0 : Nat) (a1 : Nat) (a4 : Nat) (x5 : Int32) (x6 : Int32) (x7 : Int32) (M : zH), r32 (a0, a1, a4, x5, x6, x7, M) = some (r, M') → zG E Y_Mc_work (some (.int r), S, M') 32 [(0, .ref a0), (1, .ref a1), (4, .ref a4), (5, .int x5), (6, .int x6), (7, .int x7)] [] S M 0 0) (h : F_Mc_work_b457 n E S r32 a0 a1 a4 x5 x6 x7 M = some (r, M')) : zG E Y_Mc_work (some (.int r), S, M') 457 [(0, .ref a0), (1, .ref a1), (4, .ref a4), (5, .int x5), (6, .int x6), (7, .int x7)] [] S M 0 0 := by
  unfold F_Mc_work_b457 at h
  refine zi_iinc 5 (x7 + 1) [(7, .int (x7 + 1)), (0, .ref a0), (1, .ref a1), (4, .ref a4), (5, .int x5), (6, .int x6)] d_Mc_work_457 rfl rfl (by decide) rfl ?_
  refine zi_goto (tgt := 32) d_Mc_work_460 rfl ?_
  refine zi_lo [(0, .ref a0), (1, .ref a1), (4, .ref a4), (5, .int x5), (6, .int x6), (7, .int (x7 + 1))] [1, 2, 3, 4, 5, 0] rfl ?_
  exact hr32 a0 a1 a4 x5 x6 (x7 + 1) M h
theorem K_Mc_work_b130 (n : Nat) (E : zE) (S : zS) (r32 : Nat × Nat × Nat × Int32 × Int32 × Int32 × zH → Option (Int32 × zH)) (a0 : Nat) (a1 : Nat) (a4 : Nat) (x5 : Int32) (x6 : Int32) (x7 : Int32) (s0 : Int32) (s1 : Int32) (u2 : Nat) (M : zH) (r : Int32) (M' : zH) (hr32 : ∀ (a0 : Nat) (a1 : Nat) (a4 : Nat) (x5 : Int32) (x6 : Int32) (x7 : Int32) (M : zH), r32 (a0, a1, a4, x5, x6, x7, M) = some (r, M') → zG E Y_Mc_work (some (.int r), S, M') 32 [(0, .ref a0), (1, .ref a1), (4, .ref a4), (5, .int x5), (6, .int x6), (7, .int x7)] [] S M 0 0) (h : F_Mc_work_b130 n E S r32 a0 a1 a4 x5 x6 x7 s0 s1 u2 M = some (r, M')) : zG E Y_Mc_work (some (.int r), S, M') 130 [(0, .ref a0), (1, .ref a1), (4, .ref a4), (5, .int x5), (6, .int x6), (7, .int x7)] [.int s0, .int s1, .ref u2] S M 0 0 := by
  unfold F_Mc_work_b130 at h
  obtain ⟨m_1, em_1, h⟩ := zbind h
  refine zo_iast 131 d_Mc_work_130 em_1 rfl ?_
  refine zi_goto (tgt := 457) d_Mc_work_131 rfl ?_
  refine zi_lo [(0, .ref a0), (1, .ref a1), (4, .ref a4), (5, .int x5), (6, .int x6), (7, .int x7)] [0, 1, 2, 3, 4, 5] rfl ?_
  exact K_Mc_work_b457 n E S r32 a0 a1 a4 x5 x6 x7 m_1 r M' hr32 h
theorem K_Mc_work_b108 (n : Nat) (E : zE) (S : zS) (r32 : Nat × Nat × Nat × Int32 × Int32 × Int32 × zH → Option (Int32 × zH)) (a0 : Nat) (a1 : Nat) (a4 : Nat) (x5 : Int32) (x6 : Int32) (x7 : Int32) (x8 : Int32) (x9 : Int32) (M : zH) (r : Int32) (M' : zH) (hr32 : ∀ (a0 : Nat) (a1 : Nat) (a4 : Nat) (x5 : Int32) (x6 : Int32) (x7 : Int32) (M : zH), r32 (a0, a1, a4, x5, x6, x7, M) = some (r, M') → zG E Y_Mc_work (some (.int r), S, M') 32 [(0, .ref a0), (1, .ref a1), (4, .ref a4), (5, .int x5), (6, .int x6), (7, .int x7)] [] S M 0 0) (h : F_Mc_work_b108 n E S r32 a0 a1 a4 x5 x6 x7 x8 x9 M = some (r, M')) : zG E Y_Mc_work (some (.int r), S, M') 108 [(0, .ref a0), (1, .ref a1), (4, .ref a4), (5, .int x5), (6, .int x6), (7, .int x7), (8, .int x8), (9, .int x9)] [] S M 0 0 := by
  unfold F_Mc_work_b108 at h
  refine zi_aload_n 0 d_Mc_work_108 rfl ?_
  obtain ⟨b_2, eb_2, h⟩ := zbind h
  refine zo_getR 112 zkd_2 0 d_Mc_work_109 eb_2 rfl tw_241 rfl ?_
  refine zi_iload 3 d_Mc_work_112 rfl ?_
  refine zi_iload 6 d_Mc_work_114 rfl ?_
  refine zi_iconst 1 d_Mc_work_116 rfl ?_
  refine zi_icmp_ne (tgt := 128) d_Mc_work_117 rfl (fun c_3 => ?_) (fun c_3 => ?_)
  · rw [if_neg c_3] at h
    refine zi_iload 7 d_Mc_work_128 rfl ?_
    refine zi_lo [(0, .ref a0), (1, .ref a1), (4, .ref a4), (5, .int x5), (6, .int x6), (7, .int x7)] [0, 1, 2, 3, 4, 5] rfl ?_
    exact K_Mc_work_b130 n E S r32 a0 a1 a4 x5 x6 x7 x9 x5 b_2 M r M' hr32 h
  · rw [if_pos c_3] at h
    refine zi_aload 2 d_Mc_work_120 rfl ?_
    refine zi_iload 7 d_Mc_work_122 rfl ?_
    obtain ⟨v_4, ev_4, h⟩ := zbind h
    refine zo_iald 125 d_Mc_work_124 ev_4 rfl ?_
    refine zi_goto (tgt := 130) d_Mc_work_125 rfl ?_
    refine zi_lo [(0, .ref a0), (1, .ref a1), (4, .ref a4), (5, .int x5), (6, .int x6), (7, .int x7)] [0, 1, 2, 3, 4, 5] rfl ?_
    exact K_Mc_work_b130 n E S r32 a0 a1 a4 x5 x6 x7 v_4 x5 b_2 M r M' hr32 h
theorem K_Mc_work_b73 (n : Nat) (E : zE) (S : zS) (r32 : Nat × Nat × Nat × Int32 × Int32 × Int32 × zH → Option (Int32 × zH)) (a0 : Nat) (a1 : Nat) (a4 : Nat) (x5 : Int32) (x6 : Int32) (x7 : Int32) (x8 : Int32) (x9 : Int32) (M : zH) (r : Int32) (M' : zH) (hr32 : ∀ (a0 : Nat) (a1 : Nat) (a4 : Nat) (x5 : Int32) (x6 : Int32) (x7 : Int32) (M : zH), r32 (a0, a1, a4, x5, x6, x7, M) = some (r, M') → zG E Y_Mc_work (some (.int r), S, M') 32 [(0, .ref a0), (1, .ref a1), (4, .ref a4), (5, .int x5), (6, .int x6), (7, .int x7)] [] S M 0 0) (h : F_Mc_work_b73 n E S r32 a0 a1 a4 x5 x6 x7 x8 x9 M = some (r, M')) : zG E Y_Mc_work (some (.int r), S, M') 73 [(0, .ref a0), (1, .ref a1), (4, .ref a4), (5, .int x5), (6, .int x6), (7, .int x7), (8, .int x8), (9, .int x9)] [] S M 0 0 := by
  unfold F_Mc_work_b73 at h
  refine zi_iinc 3 (x5 + 1) [(5, .int (x5 + 1)), (0, .ref a0), (1, .ref a1), (4, .ref a4), (6, .int x6), (7, .int x7), (8, .int x8), (9, .int x9)] d_Mc_work_73 rfl rfl (by decide) rfl ?_
  refine zi_iload 0 d_Mc_work_76 rfl ?_
  refine zi_aload_n 1 d_Mc_work_78 rfl ?_
  obtain ⟨b_5, eb_5, h⟩ := zbind h
  refine zo_getR 82 zkd_2 0 d_Mc_work_79 eb_5 rfl tw_241 rfl ?_
  obtain ⟨v_6, ev_6, h⟩ := zbind h
  refine zo_alen 83 d_Mc_work_82 ev_6 (by decide) rfl ?_
  refine zi_icmp_ge (tgt := 105) d_Mc_work_83 rfl (fun c_7 => ?_) (fun c_7 => ?_)
  · rw [if_pos c_7] at h
    refine zi_lo [] [] rfl ?_
    exact K_Mc_work_b105 n E S  M r M'  h
  · rw [if_neg c_7] at h
    refine zi_iload 7 d_Mc_work_86 rfl ?_
    refine zi_if_lt (tgt := 105) d_Mc_work_88 rfl (fun c_8 => ?_) (fun c_8 => ?_)
    · rw [if_pos c_8] at h
      refine zi_lo [] [] rfl ?_
      exact K_Mc_work_b105 n E S  M r M'  h
    · rw [if_neg c_8] at h
      refine zi_iload 6 d_Mc_work_91 rfl ?_
      refine zi_iconst 1 d_Mc_work_93 rfl ?_
      refine zi_icmp_ne (tgt := 108) d_Mc_work_94 rfl (fun c_9 => ?_) (fun c_9 => ?_)
      · rw [if_neg c_9] at h
        refine zi_lo [(0, .ref a0), (1, .ref a1), (4, .ref a4), (5, .int (x5 + 1)), (6, .int x6), (7, .int x7), (8, .int x8), (9, .int x9)] [1, 2, 3, 0, 4, 5, 6, 7] rfl ?_
        exact K_Mc_work_b108 n E S r32 a0 a1 a4 (x5 + 1) x6 x7 x8 x9 M r M' hr32 h
      · rw [if_pos c_9] at h
        refine zi_iload 7 d_Mc_work_97 rfl ?_
        refine zi_aload 3 d_Mc_work_99 rfl ?_
        obtain ⟨v_10, ev_10, h⟩ := zbind h
        refine zo_alen 102 d_Mc_work_101 ev_10 (by decide) rfl ?_
        refine zi_icmp_lt (tgt := 108) d_Mc_work_102 rfl (fun c_11 => ?_) (fun c_11 => ?_)
        · rw [if_pos c_11] at h
          refine zi_lo [(0, .ref a0), (1, .ref a1), (4, .ref a4), (5, .int (x5 + 1)), (6, .int x6), (7, .int x7), (8, .int x8), (9, .int x9)] [1, 2, 3, 0, 4, 5, 6, 7] rfl ?_
          exact K_Mc_work_b108 n E S r32 a0 a1 a4 (x5 + 1) x6 x7 x8 x9 M r M' hr32 h
        · rw [if_neg c_11] at h
          refine zi_lo [] [] rfl ?_
          exact K_Mc_work_b105 n E S  M r M'  h
theorem K_Mc_work_b254 (n : Nat) (E : zE) (S : zS) (r32 : Nat × Nat × Nat × Int32 × Int32 × Int32 × zH → Option (Int32 × zH)) (a0 : Nat) (a1 : Nat) (a4 : Nat) (x5 : Int32) (x6 : Int32) (x7 : Int32) (s0 : Int32) (s1 : Int32) (u2 : Nat) (M : zH) (r : Int32) (M' : zH) (hr32 : ∀ (a0 : Nat) (a1 : Nat) (a4 : Nat) (x5 : Int32) (x6 : Int32) (x7 : Int32) (M : zH), r32 (a0, a1, a4, x5, x6, x7, M) = some (r, M') → zG E Y_Mc_work (some (.int r), S, M') 32 [(0, .ref a0), (1, .ref a1), (4, .ref a4), (5, .int x5), (6, .int x6), (7, .int x7)] [] S M 0 0) (h : F_Mc_work_b254 n E S r32 a0 a1 a4 x5 x6 x7 s0 s1 u2 M = some (r, M')) : zG E Y_Mc_work (some (.int r), S, M') 254 [(0, .ref a0), (1, .ref a1), (4, .ref a4), (5, .int x5), (6, .int x6), (7, .int x7)] [.int s0, .int s1, .ref u2] S M 0 0 := by
  unfold F_Mc_work_b254 at h
  obtain ⟨m_12, em_12, h⟩ := zbind h
  refine zo_iast 255 d_Mc_work_254 em_12 rfl ?_
  refine zi_goto (tgt := 457) d_Mc_work_255 rfl ?_
  refine zi_lo [(0, .ref a0), (1, .ref a1), (4, .ref a4), (5, .int x5), (6, .int x6), (7, .int x7)] [0, 1, 2, 3, 4, 5] rfl ?_
  exact K_Mc_work_b457 n E S r32 a0 a1 a4 x5 x6 x7 m_12 r M' hr32 h
theorem K_Mc_work_b292 (n : Nat) (E : zE) (S : zS) (r32 : Nat × Nat × Nat × Int32 × Int32 × Int32 × zH → Option (Int32 × zH)) (a0 : Nat) (a1 : Nat) (a4 : Nat) (x5 : Int32) (x6 : Int32) (s0 : Int32) (M : zH) (r : Int32) (M' : zH) (hr32 : ∀ (a0 : Nat) (a1 : Nat) (a4 : Nat) (x5 : Int32) (x6 : Int32) (x7 : Int32) (M : zH), r32 (a0, a1, a4, x5, x6, x7, M) = some (r, M') → zG E Y_Mc_work (some (.int r), S, M') 32 [(0, .ref a0), (1, .ref a1), (4, .ref a4), (5, .int x5), (6, .int x6), (7, .int x7)] [] S M 0 0) (h : F_Mc_work_b292 n E S r32 a0 a1 a4 x5 x6 s0 M = some (r, M')) : zG E Y_Mc_work (some (.int r), S, M') 292 [(0, .ref a0), (1, .ref a1), (4, .ref a4), (5, .int x5), (6, .int x6)] [.int s0] S M 0 0 := by
  unfold F_Mc_work_b292 at h
  refine zi_istore [(7, .int s0), (0, .ref a0), (1, .ref a1), (4, .ref a4), (5, .int x5), (6, .int x6)] d_Mc_work_292 (by decide) rfl ?_
  refine zi_goto (tgt := 457) d_Mc_work_294 rfl ?_
  refine zi_lo [(0, .ref a0), (1, .ref a1), (4, .ref a4), (5, .int x5), (6, .int x6), (7, .int s0)] [1, 2, 3, 4, 5, 0] rfl ?_
  exact K_Mc_work_b457 n E S r32 a0 a1 a4 x5 x6 s0 M r M' hr32 h
theorem K_Mc_work_b271 (n : Nat) (E : zE) (S : zS) (r32 : Nat × Nat × Nat × Int32 × Int32 × Int32 × zH → Option (Int32 × zH)) (a0 : Nat) (a1 : Nat) (a4 : Nat) (x5 : Int32) (x6 : Int32) (x7 : Int32) (x9 : Int32) (s0 : Int32) (t1 : Int64) (M : zH) (r : Int32) (M' : zH) (hr32 : ∀ (a0 : Nat) (a1 : Nat) (a4 : Nat) (x5 : Int32) (x6 : Int32) (x7 : Int32) (M : zH), r32 (a0, a1, a4, x5, x6, x7, M) = some (r, M') → zG E Y_Mc_work (some (.int r), S, M') 32 [(0, .ref a0), (1, .ref a1), (4, .ref a4), (5, .int x5), (6, .int x6), (7, .int x7)] [] S M 0 0) (h : F_Mc_work_b271 n E S r32 a0 a1 a4 x5 x6 x7 x9 s0 t1 M = some (r, M')) : zG E Y_Mc_work (some (.int r), S, M') 271 [(0, .ref a0), (1, .ref a1), (4, .ref a4), (5, .int x5), (6, .int x6), (7, .int x7), (9, .int x9)] [.int s0, .long t1] S M 0 0 := by
  unfold F_Mc_work_b271 at h
  refine zi_i2l d_Mc_work_271 ?_
  refine zo_lc_ne d_Mc_work_272 d_Mc_work_273 rfl 276 rfl (fun c_13 => ?_) (fun c_13 => ?_)
  · rw [if_neg c_13] at h
    refine zi_iinc 3 (x5 + (-1)) [(5, .int (x5 + (-1))), (0, .ref a0), (1, .ref a1), (4, .ref a4), (6, .int x6), (7, .int x7), (9, .int x9)] d_Mc_work_297 rfl rfl (by decide) rfl ?_
    refine zi_goto (tgt := 457) d_Mc_work_300 rfl ?_
    refine zi_lo [(0, .ref a0), (1, .ref a1), (4, .ref a4), (5, .int (x5 + (-1))), (6, .int x6), (7, .int x7)] [1, 2, 3, 0, 4, 5] rfl ?_
    exact K_Mc_work_b457 n E S r32 a0 a1 a4 (x5 + (-1)) x6 x7 M r M' hr32 h
  · rw [if_pos c_13] at h
    refine zi_iload 6 d_Mc_work_276 rfl ?_
    refine zi_iload 5 d_Mc_work_278 rfl ?_
    refine zi_icmp_le (tgt := 290) d_Mc_work_280 rfl (fun c_14 => ?_) (fun c_14 => ?_)
    · rw [if_pos c_14] at h
      refine zi_iload 5 d_Mc_work_290 rfl ?_
      refine zi_lo [(0, .ref a0), (1, .ref a1), (4, .ref a4), (5, .int x5), (6, .int x6)] [0, 1, 2, 3, 4] rfl ?_
      exact K_Mc_work_b292 n E S r32 a0 a1 a4 x5 x6 x7 M r M' hr32 h
    · rw [if_neg c_14] at h
      refine zi_iload 6 d_Mc_work_283 rfl ?_
      refine zi_iconst 1 d_Mc_work_285 rfl ?_
      refine zi_isub d_Mc_work_286 ?_
      refine zi_goto (tgt := 292) d_Mc_work_287 rfl ?_
      refine zi_lo [(0, .ref a0), (1, .ref a1), (4, .ref a4), (5, .int x5), (6, .int x6)] [0, 1, 2, 3, 4] rfl ?_
      exact K_Mc_work_b292 n E S r32 a0 a1 a4 x5 x6 (x9 - 1) M r M' hr32 h
theorem K_Mc_work_b441 (n : Nat) (E : zE) (S : zS)  (M : zH) (r : Int32) (M' : zH)  (h : F_Mc_work_b441 n E S  M = some (r, M')) : zG E Y_Mc_work (some (.int r), S, M') 441 [] [] S M 0 0 := by
  unfold F_Mc_work_b441 at h
  refine zi_ldc d_Mc_work_441 tw_431 ?_
  cases h
  exact zo_ret d_Mc_work_443 (Nat.le_of_ble_eq_true rfl) (Nat.le_of_ble_eq_true rfl) rfl
theorem K_Mc_work_b423 (n : Nat) (E : zE) (S : zS) (r32 : Nat × Nat × Nat × Int32 × Int32 × Int32 × zH → Option (Int32 × zH)) (a0 : Nat) (a1 : Nat) (a4 : Nat) (x5 : Int32) (x6 : Int32) (x7 : Int32) (y14 : Int64) (M : zH) (r : Int32) (M' : zH) (hr32 : ∀ (a0 : Nat) (a1 : Nat) (a4 : Nat) (x5 : Int32) (x6 : Int32) (x7 : Int32) (M : zH), r32 (a0, a1, a4, x5, x6, x7, M) = some (r, M') → zG E Y_Mc_work (some (.int r), S, M') 32 [(0, .ref a0), (1, .ref a1), (4, .ref a4), (5, .int x5), (6, .int x6), (7, .int x7)] [] S M 0 0) (h : F_Mc_work_b423 n E S r32 a0 a1 a4 x5 x6 x7 y14 M = some (r, M')) : zG E Y_Mc_work (some (.int r), S, M') 423 [(0, .ref a0), (1, .ref a1), (4, .ref a4), (5, .int x5), (6, .int x6), (7, .int x7), (14, .long y14)] [] S M 0 0 := by
  unfold F_Mc_work_b423 at h
  refine zi_lload 6 d_Mc_work_423 rfl ?_
  refine zi_ldc2 d_Mc_work_425 tw_432 ?_
  refine zo_lc_gt d_Mc_work_428 d_Mc_work_429 rfl 432 rfl (fun c_15 => ?_) (fun c_15 => ?_)
  · rw [if_pos c_15] at h
    refine zi_lo [] [] rfl ?_
    exact K_Mc_work_b441 n E S  M r M'  h
  · rw [if_neg c_15] at h
    refine zi_lload 6 d_Mc_work_432 rfl ?_
    refine zi_ldc2 d_Mc_work_434 tw_433 ?_
    refine zo_lc_ge d_Mc_work_437 d_Mc_work_438 rfl 441 rfl (fun c_16 => ?_) (fun c_16 => ?_)
    · rw [if_pos c_16] at h
      refine zi_iinc 3 (x5 + (-1)) [(5, .int (x5 + (-1))), (0, .ref a0), (1, .ref a1), (4, .ref a4), (6, .int x6), (7, .int x7), (14, .long y14)] d_Mc_work_444 rfl rfl (by decide) rfl ?_
      refine zi_aload_n 1 d_Mc_work_447 rfl ?_
      obtain ⟨b_17, eb_17, h⟩ := zbind h
      refine zo_getR 451 zkd_2 0 d_Mc_work_448 eb_17 rfl tw_241 rfl ?_
      refine zi_iload 0 d_Mc_work_451 rfl ?_
      refine zi_lload 6 d_Mc_work_453 rfl ?_
      refine zi_l2i d_Mc_work_455 ?_
      obtain ⟨m_18, em_18, h⟩ := zbind h
      refine zo_iast 457 d_Mc_work_456 em_18 rfl ?_
      refine zi_lo [(0, .ref a0), (1, .ref a1), (4, .ref a4), (5, .int (x5 + (-1))), (6, .int x6), (7, .int x7)] [1, 2, 3, 0, 4, 5] rfl ?_
      exact K_Mc_work_b457 n E S r32 a0 a1 a4 (x5 + (-1)) x6 x7 m_18 r M' hr32 h
    · rw [if_neg c_16] at h
      refine zi_lo [] [] rfl ?_
      exact K_Mc_work_b441 n E S  M r M'  h
theorem K_Mc_work_b322 (n : Nat) (E : zE) (S : zS) (r32 : Nat × Nat × Nat × Int32 × Int32 × Int32 × zH → Option (Int32 × zH)) (a0 : Nat) (a1 : Nat) (a4 : Nat) (x5 : Int32) (x6 : Int32) (x7 : Int32) (t0 : Int64) (M : zH) (r : Int32) (M' : zH) (hr32 : ∀ (a0 : Nat) (a1 : Nat) (a4 : Nat) (x5 : Int32) (x6 : Int32) (x7 : Int32) (M : zH), r32 (a0, a1, a4, x5, x6, x7, M) = some (r, M') → zG E Y_Mc_work (some (.int r), S, M') 32 [(0, .ref a0), (1, .ref a1), (4, .ref a4), (5, .int x5), (6, .int x6), (7, .int x7)] [] S M 0 0) (h : F_Mc_work_b322 n E S r32 a0 a1 a4 x5 x6 x7 t0 M = some (r, M')) : zG E Y_Mc_work (some (.int r), S, M') 322 [(0, .ref a0), (1, .ref a1), (4, .ref a4), (5, .int x5), (6, .int x6), (7, .int x7)] [.long t0] S M 0 0 := by
  unfold F_Mc_work_b322 at h
  refine zi_lstore [(14, .long t0), (0, .ref a0), (1, .ref a1), (4, .ref a4), (5, .int x5), (6, .int x6), (7, .int x7)] d_Mc_work_322 (by decide) rfl ?_
  refine zi_goto (tgt := 423) d_Mc_work_324 rfl ?_
  refine zi_lo [(0, .ref a0), (1, .ref a1), (4, .ref a4), (5, .int x5), (6, .int x6), (7, .int x7), (14, .long t0)] [1, 2, 3, 4, 5, 6, 0] rfl ?_
  exact K_Mc_work_b423 n E S r32 a0 a1 a4 x5 x6 x7 t0 M r M' hr32 h
theorem K_Mc_work_b367 (n : Nat) (E : zE) (S : zS) (r32 : Nat × Nat × Nat × Int32 × Int32 × Int32 × zH → Option (Int32 × zH)) (a0 : Nat) (a1 : Nat) (a4 : Nat) (x5 : Int32) (x6 : Int32) (x7 : Int32) (t0 : Int64) (M : zH) (r : Int32) (M' : zH) (hr32 : ∀ (a0 : Nat) (a1 : Nat) (a4 : Nat) (x5 : Int32) (x6 : Int32) (x7 : Int32) (M : zH), r32 (a0, a1, a4, x5, x6, x7, M) = some (r, M') → zG E Y_Mc_work (some (.int r), S, M') 32 [(0, .ref a0), (1, .ref a1), (4, .ref a4), (5, .int x5), (6, .int x6), (7, .int x7)] [] S M 0 0) (h : F_Mc_work_b367 n E S r32 a0 a1 a4 x5 x6 x7 t0 M = some (r, M')) : zG E Y_Mc_work (some (.int r), S, M') 367 [(0, .ref a0), (1, .ref a1), (4, .ref a4), (5, .int x5), (6, .int x6), (7, .int x7)] [.long t0] S M 0 0 := by
  unfold F_Mc_work_b367 at h
  refine zi_lstore [(14, .long t0), (0, .ref a0), (1, .ref a1), (4, .ref a4), (5, .int x5), (6, .int x6), (7, .int x7)] d_Mc_work_367 (by decide) rfl ?_
  refine zi_goto (tgt := 423) d_Mc_work_369 rfl ?_
  refine zi_lo [(0, .ref a0), (1, .ref a1), (4, .ref a4), (5, .int x5), (6, .int x6), (7, .int x7), (14, .long t0)] [1, 2, 3, 4, 5, 6, 0] rfl ?_
  exact K_Mc_work_b423 n E S r32 a0 a1 a4 x5 x6 x7 t0 M r M' hr32 h
theorem K_Mc_work_b385 (n : Nat) (E : zE) (S : zS) (r32 : Nat × Nat × Nat × Int32 × Int32 × Int32 × zH → Option (Int32 × zH)) (a0 : Nat) (a1 : Nat) (a4 : Nat) (x5 : Int32) (x6 : Int32) (x7 : Int32) (t0 : Int64) (M : zH) (r : Int32) (M' : zH) (hr32 : ∀ (a0 : Nat) (a1 : Nat) (a4 : Nat) (x5 : Int32) (x6 : Int32) (x7 : Int32) (M : zH), r32 (a0, a1, a4, x5, x6, x7, M) = some (r, M') → zG E Y_Mc_work (some (.int r), S, M') 32 [(0, .ref a0), (1, .ref a1), (4, .ref a4), (5, .int x5), (6, .int x6), (7, .int x7)] [] S M 0 0) (h : F_Mc_work_b385 n E S r32 a0 a1 a4 x5 x6 x7 t0 M = some (r, M')) : zG E Y_Mc_work (some (.int r), S, M') 385 [(0, .ref a0), (1, .ref a1), (4, .ref a4), (5, .int x5), (6, .int x6), (7, .int x7)] [.long t0] S M 0 0 := by
  unfold F_Mc_work_b385 at h
  refine zi_lstore [(14, .long t0), (0, .ref a0), (1, .ref a1), (4, .ref a4), (5, .int x5), (6, .int x6), (7, .int x7)] d_Mc_work_385 (by decide) rfl ?_
  refine zi_goto (tgt := 423) d_Mc_work_387 rfl ?_
  refine zi_lo [(0, .ref a0), (1, .ref a1), (4, .ref a4), (5, .int x5), (6, .int x6), (7, .int x7), (14, .long t0)] [1, 2, 3, 4, 5, 6, 0] rfl ?_
  exact K_Mc_work_b423 n E S r32 a0 a1 a4 x5 x6 x7 t0 M r M' hr32 h
theorem K_Mc_work_b421 (n : Nat) (E : zE) (S : zS) (r32 : Nat × Nat × Nat × Int32 × Int32 × Int32 × zH → Option (Int32 × zH)) (a0 : Nat) (a1 : Nat) (a4 : Nat) (x5 : Int32) (x6 : Int32) (x7 : Int32) (t0 : Int64) (M : zH) (r : Int32) (M' : zH) (hr32 : ∀ (a0 : Nat) (a1 : Nat) (a4 : Nat) (x5 : Int32) (x6 : Int32) (x7 : Int32) (M : zH), r32 (a0, a1, a4, x5, x6, x7, M) = some (r, M') → zG E Y_Mc_work (some (.int r), S, M') 32 [(0, .ref a0), (1, .ref a1), (4, .ref a4), (5, .int x5), (6, .int x6), (7, .int x7)] [] S M 0 0) (h : F_Mc_work_b421 n E S r32 a0 a1 a4 x5 x6 x7 t0 M = some (r, M')) : zG E Y_Mc_work (some (.int r), S, M') 421 [(0, .ref a0), (1, .ref a1), (4, .ref a4), (5, .int x5), (6, .int x6), (7, .int x7)] [.long t0] S M 0 0 := by
  unfold F_Mc_work_b421 at h
  refine zi_lstore [(14, .long t0), (0, .ref a0), (1, .ref a1), (4, .ref a4), (5, .int x5), (6, .int x6), (7, .int x7)] d_Mc_work_421 (by decide) rfl ?_
  refine zi_lo [(0, .ref a0), (1, .ref a1), (4, .ref a4), (5, .int x5), (6, .int x6), (7, .int x7), (14, .long t0)] [1, 2, 3, 4, 5, 6, 0] rfl ?_
  exact K_Mc_work_b423 n E S r32 a0 a1 a4 x5 x6 x7 t0 M r M' hr32 h
theorem K_Mc_work_b416 (n : Nat) (E : zE) (S : zS) (r32 : Nat × Nat × Nat × Int32 × Int32 × Int32 × zH → Option (Int32 × zH)) (a0 : Nat) (a1 : Nat) (a4 : Nat) (x5 : Int32) (x6 : Int32) (x7 : Int32) (M : zH) (r : Int32) (M' : zH) (hr32 : ∀ (a0 : Nat) (a1 : Nat) (a4 : Nat) (x5 : Int32) (x6 : Int32) (x7 : Int32) (M : zH), r32 (a0, a1, a4, x5, x6, x7, M) = some (r, M') → zG E Y_Mc_work (some (.int r), S, M') 32 [(0, .ref a0), (1, .ref a1), (4, .ref a4), (5, .int x5), (6, .int x6), (7, .int x7)] [] S M 0 0) (h : F_Mc_work_b416 n E S r32 a0 a1 a4 x5 x6 x7 M = some (r, M')) : zG E Y_Mc_work (some (.int r), S, M') 416 [(0, .ref a0), (1, .ref a1), (4, .ref a4), (5, .int x5), (6, .int x6), (7, .int x7)] [] S M 0 0 := by
  unfold F_Mc_work_b416 at h
  refine zi_lconst 1 d_Mc_work_416 rfl ?_
  refine zi_goto (tgt := 421) d_Mc_work_417 rfl ?_
  refine zi_lo [(0, .ref a0), (1, .ref a1), (4, .ref a4), (5, .int x5), (6, .int x6), (7, .int x7)] [0, 1, 2, 3, 4, 5] rfl ?_
  exact K_Mc_work_b421 n E S r32 a0 a1 a4 x5 x6 x7 1 M r M' hr32 h
theorem K_Mc_work_b420 (n : Nat) (E : zE) (S : zS) (r32 : Nat × Nat × Nat × Int32 × Int32 × Int32 × zH → Option (Int32 × zH)) (a0 : Nat) (a1 : Nat) (a4 : Nat) (x5 : Int32) (x6 : Int32) (x7 : Int32) (M : zH) (r : Int32) (M' : zH) (hr32 : ∀ (a0 : Nat) (a1 : Nat) (a4 : Nat) (x5 : Int32) (x6 : Int32) (x7 : Int32) (M : zH), r32 (a0, a1, a4, x5, x6, x7, M) = some (r, M') → zG E Y_Mc_work (some (.int r), S, M') 32 [(0, .ref a0), (1, .ref a1), (4, .ref a4), (5, .int x5), (6, .int x6), (7, .int x7)] [] S M 0 0) (h : F_Mc_work_b420 n E S r32 a0 a1 a4 x5 x6 x7 M = some (r, M')) : zG E Y_Mc_work (some (.int r), S, M') 420 [(0, .ref a0), (1, .ref a1), (4, .ref a4), (5, .int x5), (6, .int x6), (7, .int x7)] [] S M 0 0 := by
  unfold F_Mc_work_b420 at h
  refine zi_lconst 0 d_Mc_work_420 rfl ?_
  refine zi_lo [(0, .ref a0), (1, .ref a1), (4, .ref a4), (5, .int x5), (6, .int x6), (7, .int x7)] [0, 1, 2, 3, 4, 5] rfl ?_
  exact K_Mc_work_b421 n E S r32 a0 a1 a4 x5 x6 x7 0 M r M' hr32 h
theorem K_Mc_work_b182 (n : Nat) (E : zE) (S : zS) (r32 : Nat × Nat × Nat × Int32 × Int32 × Int32 × zH → Option (Int32 × zH)) (a0 : Nat) (a1 : Nat) (a4 : Nat) (x5 : Int32) (x6 : Int32) (x7 : Int32) (x8 : Int32) (x9 : Int32) (y10 : Int64) (t0 : Int64) (M : zH) (r : Int32) (M' : zH) (hr32 : ∀ (a0 : Nat) (a1 : Nat) (a4 : Nat) (x5 : Int32) (x6 : Int32) (x7 : Int32) (M : zH), r32 (a0, a1, a4, x5, x6, x7, M) = some (r, M') → zG E Y_Mc_work (some (.int r), S, M') 32 [(0, .ref a0), (1, .ref a1), (4, .ref a4), (5, .int x5), (6, .int x6), (7, .int x7)] [] S M 0 0) (h : F_Mc_work_b182 n E S r32 a0 a1 a4 x5 x6 x7 x8 x9 y10 t0 M = some (r, M')) : zG E Y_Mc_work (some (.int r), S, M') 182 [(0, .ref a0), (1, .ref a1), (4, .ref a4), (5, .int x5), (6, .int x6), (7, .int x7), (8, .int x8), (9, .int x9), (10, .long y10)] [.long t0] S M 0 0 := by
  unfold F_Mc_work_b182 at h
  refine zi_lstore [(12, .long t0), (0, .ref a0), (1, .ref a1), (4, .ref a4), (5, .int x5), (6, .int x6), (7, .int x7), (8, .int x8), (9, .int x9), (10, .long y10)] d_Mc_work_182 (by decide) rfl ?_
  refine zi_iload 7 d_Mc_work_184 rfl ?_
  by_cases c_19 : x8 = 2
  · rw [if_pos c_19] at h
    refine zo_tab (tgt := 236) 2 d_Mc_work_186 c_19 (by decide) (by decide) rfl rfl ?_
    refine zi_aload_n 1 d_Mc_work_236 rfl ?_
    obtain ⟨b_20, eb_20, h⟩ := zbind h
    refine zo_getR 240 zkd_2 0 d_Mc_work_237 eb_20 rfl tw_241 rfl ?_
    refine zi_iload 4 d_Mc_work_240 rfl ?_
    refine zi_lload 9 d_Mc_work_242 rfl ?_
    refine zi_lconst 0 d_Mc_work_244 rfl ?_
    refine zo_lc_ne d_Mc_work_245 d_Mc_work_246 rfl 249 rfl (fun c_21 => ?_) (fun c_21 => ?_)
    · rw [if_neg c_21] at h
      refine zi_iconst 0 d_Mc_work_253 rfl ?_
      refine zi_lo [(0, .ref a0), (1, .ref a1), (4, .ref a4), (5, .int x5), (6, .int x6), (7, .int x7)] [1, 2, 3, 4, 5, 6] rfl ?_
      exact K_Mc_work_b254 n E S r32 a0 a1 a4 x5 x6 x7 0 x5 b_20 M r M' hr32 h
    · rw [if_pos c_21] at h
      refine zi_iconst 1 d_Mc_work_249 rfl ?_
      refine zi_goto (tgt := 254) d_Mc_work_250 rfl ?_
      refine zi_lo [(0, .ref a0), (1, .ref a1), (4, .ref a4), (5, .int x5), (6, .int x6), (7, .int x7)] [1, 2, 3, 4, 5, 6] rfl ?_
      exact K_Mc_work_b254 n E S r32 a0 a1 a4 x5 x6 x7 1 x5 b_20 M r M' hr32 h
  rw [if_neg c_19] at h
  by_cases c_22 : x8 = 3
  · rw [if_pos c_22] at h
    refine zo_tab (tgt := 258) 3 d_Mc_work_186 c_22 (by decide) (by decide) rfl rfl ?_
    refine zi_lload 9 d_Mc_work_258 rfl ?_
    refine zi_iload 7 d_Mc_work_260 rfl ?_
    refine zi_iconst 4 d_Mc_work_262 rfl ?_
    refine zi_icmp_ne (tgt := 270) d_Mc_work_263 rfl (fun c_23 => ?_) (fun c_23 => ?_)
    · rw [if_neg c_23] at h
      refine zi_iconst 0 d_Mc_work_270 rfl ?_
      refine zi_lo [(0, .ref a0), (1, .ref a1), (4, .ref a4), (5, .int x5), (6, .int x6), (7, .int x7), (9, .int x9)] [1, 2, 3, 4, 5, 6, 8] rfl ?_
      exact K_Mc_work_b271 n E S r32 a0 a1 a4 x5 x6 x7 x9 0 y10 M r M' hr32 h
    · rw [if_pos c_23] at h
      refine zi_iconst 1 d_Mc_work_266 rfl ?_
      refine zi_goto (tgt := 271) d_Mc_work_267 rfl ?_
      refine zi_lo [(0, .ref a0), (1, .ref a1), (4, .ref a4), (5, .int x5), (6, .int x6), (7, .int x7), (9, .int x9)] [1, 2, 3, 4, 5, 6, 8] rfl ?_
      exact K_Mc_work_b271 n E S r32 a0 a1 a4 x5 x6 x7 x9 1 y10 M r M' hr32 h
  rw [if_neg c_22] at h
  by_cases c_24 : x8 = 4
  · rw [if_pos c_24] at h
    refine zo_tab (tgt := 258) 4 d_Mc_work_186 c_24 (by decide) (by decide) rfl rfl ?_
    refine zi_lload 9 d_Mc_work_258 rfl ?_
    refine zi_iload 7 d_Mc_work_260 rfl ?_
    refine zi_iconst 4 d_Mc_work_262 rfl ?_
    refine zi_icmp_ne (tgt := 270) d_Mc_work_263 rfl (fun c_25 => ?_) (fun c_25 => ?_)
    · rw [if_neg c_25] at h
      refine zi_iconst 0 d_Mc_work_270 rfl ?_
      refine zi_lo [(0, .ref a0), (1, .ref a1), (4, .ref a4), (5, .int x5), (6, .int x6), (7, .int x7), (9, .int x9)] [1, 2, 3, 4, 5, 6, 8] rfl ?_
      exact K_Mc_work_b271 n E S r32 a0 a1 a4 x5 x6 x7 x9 0 y10 M r M' hr32 h
    · rw [if_pos c_25] at h
      refine zi_iconst 1 d_Mc_work_266 rfl ?_
      refine zi_goto (tgt := 271) d_Mc_work_267 rfl ?_
      refine zi_lo [(0, .ref a0), (1, .ref a1), (4, .ref a4), (5, .int x5), (6, .int x6), (7, .int x7), (9, .int x9)] [1, 2, 3, 4, 5, 6, 8] rfl ?_
      exact K_Mc_work_b271 n E S r32 a0 a1 a4 x5 x6 x7 x9 1 y10 M r M' hr32 h
  rw [if_neg c_24] at h
  by_cases c_26 : x8 = 5
  · rw [if_pos c_26] at h
    refine zo_tab (tgt := 303) 5 d_Mc_work_186 c_26 (by decide) (by decide) rfl rfl ?_
    refine zi_iload 7 d_Mc_work_303 rfl ?_
    refine zi_iconst 5 d_Mc_work_305 rfl ?_
    refine zi_icmp_ne (tgt := 317) d_Mc_work_306 rfl (fun c_27 => ?_) (fun c_27 => ?_)
    · rw [if_neg c_27] at h
      refine zi_lload 0 d_Mc_work_317 rfl ?_
      refine zi_lload 9 d_Mc_work_319 rfl ?_
      refine zi_lsub d_Mc_work_321 ?_
      refine zi_lo [(0, .ref a0), (1, .ref a1), (4, .ref a4), (5, .int x5), (6, .int x6), (7, .int x7)] [1, 2, 3, 4, 5, 6] rfl ?_
      exact K_Mc_work_b322 n E S r32 a0 a1 a4 x5 x6 x7 (t0 - y10) M r M' hr32 h
    · rw [if_pos c_27] at h
      refine zi_lload 0 d_Mc_work_309 rfl ?_
      refine zi_lload 9 d_Mc_work_311 rfl ?_
      refine zi_ladd d_Mc_work_313 ?_
      refine zi_goto (tgt := 322) d_Mc_work_314 rfl ?_
      refine zi_lo [(0, .ref a0), (1, .ref a1), (4, .ref a4), (5, .int x5), (6, .int x6), (7, .int x7)] [1, 2, 3, 4, 5, 6] rfl ?_
      exact K_Mc_work_b322 n E S r32 a0 a1 a4 x5 x6 x7 (t0 + y10) M r M' hr32 h
  rw [if_neg c_26] at h
  by_cases c_28 : x8 = 6
  · rw [if_pos c_28] at h
    refine zo_tab (tgt := 303) 6 d_Mc_work_186 c_28 (by decide) (by decide) rfl rfl ?_
    refine zi_iload 7 d_Mc_work_303 rfl ?_
    refine zi_iconst 5 d_Mc_work_305 rfl ?_
    refine zi_icmp_ne (tgt := 317) d_Mc_work_306 rfl (fun c_29 => ?_) (fun c_29 => ?_)
    · rw [if_neg c_29] at h
      refine zi_lload 0 d_Mc_work_317 rfl ?_
      refine zi_lload 9 d_Mc_work_319 rfl ?_
      refine zi_lsub d_Mc_work_321 ?_
      refine zi_lo [(0, .ref a0), (1, .ref a1), (4, .ref a4), (5, .int x5), (6, .int x6), (7, .int x7)] [1, 2, 3, 4, 5, 6] rfl ?_
      exact K_Mc_work_b322 n E S r32 a0 a1 a4 x5 x6 x7 (t0 - y10) M r M' hr32 h
    · rw [if_pos c_29] at h
      refine zi_lload 0 d_Mc_work_309 rfl ?_
      refine zi_lload 9 d_Mc_work_311 rfl ?_
      refine zi_ladd d_Mc_work_313 ?_
      refine zi_goto (tgt := 322) d_Mc_work_314 rfl ?_
      refine zi_lo [(0, .ref a0), (1, .ref a1), (4, .ref a4), (5, .int x5), (6, .int x6), (7, .int x7)] [1, 2, 3, 4, 5, 6] rfl ?_
      exact K_Mc_work_b322 n E S r32 a0 a1 a4 x5 x6 x7 (t0 + y10) M r M' hr32 h
  rw [if_neg c_28] at h
  by_cases c_30 : x8 = 7
  · rw [if_pos c_30] at h
    refine zo_tab (tgt := 327) 7 d_Mc_work_186 c_30 (by decide) (by decide) rfl rfl ?_
    refine zi_lload 0 d_Mc_work_327 rfl ?_
    refine zi_lload 9 d_Mc_work_329 rfl ?_
    refine zi_lmul d_Mc_work_331 ?_
    refine zi_lstore [(14, .long (t0 * y10)), (12, .long t0), (0, .ref a0), (1, .ref a1), (4, .ref a4), (5, .int x5), (6, .int x6), (7, .int x7), (8, .int x8), (9, .int x9), (10, .long y10)] d_Mc_work_332 (by decide) rfl ?_
    refine zi_goto (tgt := 423) d_Mc_work_334 rfl ?_
    refine zi_lo [(0, .ref a0), (1, .ref a1), (4, .ref a4), (5, .int x5), (6, .int x6), (7, .int x7), (14, .long (t0 * y10))] [2, 3, 4, 5, 6, 7, 0] rfl ?_
    exact K_Mc_work_b423 n E S r32 a0 a1 a4 x5 x6 x7 (t0 * y10) M r M' hr32 h
  rw [if_neg c_30] at h
  by_cases c_31 : x8 = 8
  · rw [if_pos c_31] at h
    refine zo_tab (tgt := 337) 8 d_Mc_work_186 c_31 (by decide) (by decide) rfl rfl ?_
    refine zi_lload 9 d_Mc_work_337 rfl ?_
    refine zi_lconst 0 d_Mc_work_339 rfl ?_
    refine zo_lc_ne d_Mc_work_340 d_Mc_work_341 rfl 344 rfl (fun c_32 => ?_) (fun c_32 => ?_)
    · rw [if_neg c_32] at h
      refine zi_iload 7 d_Mc_work_347 rfl ?_
      refine zi_bipush 9 d_Mc_work_349 rfl ?_
      refine zi_icmp_ne (tgt := 362) d_Mc_work_351 rfl (fun c_33 => ?_) (fun c_33 => ?_)
      · rw [if_neg c_33] at h
        refine zi_lload 0 d_Mc_work_362 rfl ?_
        refine zi_lload 9 d_Mc_work_364 rfl ?_
        obtain ⟨v_35, ev_35, h⟩ := zbind h
        refine zo_ldiv 367 d_Mc_work_366 ev_35 rfl ?_
        refine zi_lo [(0, .ref a0), (1, .ref a1), (4, .ref a4), (5, .int x5), (6, .int x6), (7, .int x7)] [1, 2, 3, 4, 5, 6] rfl ?_
        exact K_Mc_work_b367 n E S r32 a0 a1 a4 x5 x6 x7 v_35 M r M' hr32 h
      · rw [if_pos c_33] at h
        refine zi_lload 0 d_Mc_work_354 rfl ?_
        refine zi_lload 9 d_Mc_work_356 rfl ?_
        obtain ⟨v_34, ev_34, h⟩ := zbind h
        refine zo_lrem 359 d_Mc_work_358 ev_34 rfl ?_
        refine zi_goto (tgt := 367) d_Mc_work_359 rfl ?_
        refine zi_lo [(0, .ref a0), (1, .ref a1), (4, .ref a4), (5, .int x5), (6, .int x6), (7, .int x7)] [1, 2, 3, 4, 5, 6] rfl ?_
        exact K_Mc_work_b367 n E S r32 a0 a1 a4 x5 x6 x7 v_34 M r M' hr32 h
    · rw [if_pos c_32] at h
      refine zi_ldc d_Mc_work_344 tw_431 ?_
      cases h
      exact zo_ret d_Mc_work_346 (Nat.le_of_ble_eq_true rfl) (Nat.le_of_ble_eq_true rfl) rfl
  rw [if_neg c_31] at h
  by_cases c_36 : x8 = 9
  · rw [if_pos c_36] at h
    refine zo_tab (tgt := 337) 9 d_Mc_work_186 c_36 (by decide) (by decide) rfl rfl ?_
    refine zi_lload 9 d_Mc_work_337 rfl ?_
    refine zi_lconst 0 d_Mc_work_339 rfl ?_
    refine zo_lc_ne d_Mc_work_340 d_Mc_work_341 rfl 344 rfl (fun c_37 => ?_) (fun c_37 => ?_)
    · rw [if_neg c_37] at h
      refine zi_iload 7 d_Mc_work_347 rfl ?_
      refine zi_bipush 9 d_Mc_work_349 rfl ?_
      refine zi_icmp_ne (tgt := 362) d_Mc_work_351 rfl (fun c_38 => ?_) (fun c_38 => ?_)
      · rw [if_neg c_38] at h
        refine zi_lload 0 d_Mc_work_362 rfl ?_
        refine zi_lload 9 d_Mc_work_364 rfl ?_
        obtain ⟨v_40, ev_40, h⟩ := zbind h
        refine zo_ldiv 367 d_Mc_work_366 ev_40 rfl ?_
        refine zi_lo [(0, .ref a0), (1, .ref a1), (4, .ref a4), (5, .int x5), (6, .int x6), (7, .int x7)] [1, 2, 3, 4, 5, 6] rfl ?_
        exact K_Mc_work_b367 n E S r32 a0 a1 a4 x5 x6 x7 v_40 M r M' hr32 h
      · rw [if_pos c_38] at h
        refine zi_lload 0 d_Mc_work_354 rfl ?_
        refine zi_lload 9 d_Mc_work_356 rfl ?_
        obtain ⟨v_39, ev_39, h⟩ := zbind h
        refine zo_lrem 359 d_Mc_work_358 ev_39 rfl ?_
        refine zi_goto (tgt := 367) d_Mc_work_359 rfl ?_
        refine zi_lo [(0, .ref a0), (1, .ref a1), (4, .ref a4), (5, .int x5), (6, .int x6), (7, .int x7)] [1, 2, 3, 4, 5, 6] rfl ?_
        exact K_Mc_work_b367 n E S r32 a0 a1 a4 x5 x6 x7 v_39 M r M' hr32 h
    · rw [if_pos c_37] at h
      refine zi_ldc d_Mc_work_344 tw_431 ?_
      cases h
      exact zo_ret d_Mc_work_346 (Nat.le_of_ble_eq_true rfl) (Nat.le_of_ble_eq_true rfl) rfl
  rw [if_neg c_36] at h
  by_cases c_41 : x8 = 10
  · rw [if_pos c_41] at h
    refine zo_tab (tgt := 372) 10 d_Mc_work_186 c_41 (by decide) (by decide) rfl rfl ?_
    refine zi_lload 0 d_Mc_work_372 rfl ?_
    refine zi_lload 9 d_Mc_work_374 rfl ?_
    refine zo_lc_ge d_Mc_work_376 d_Mc_work_377 rfl 380 rfl (fun c_42 => ?_) (fun c_42 => ?_)
    · rw [if_pos c_42] at h
      refine zi_lconst 0 d_Mc_work_384 rfl ?_
      refine zi_lo [(0, .ref a0), (1, .ref a1), (4, .ref a4), (5, .int x5), (6, .int x6), (7, .int x7)] [1, 2, 3, 4, 5, 6] rfl ?_
      exact K_Mc_work_b385 n E S r32 a0 a1 a4 x5 x6 x7 0 M r M' hr32 h
    · rw [if_neg c_42] at h
      refine zi_lconst 1 d_Mc_work_380 rfl ?_
      refine zi_goto (tgt := 385) d_Mc_work_381 rfl ?_
      refine zi_lo [(0, .ref a0), (1, .ref a1), (4, .ref a4), (5, .int x5), (6, .int x6), (7, .int x7)] [1, 2, 3, 4, 5, 6] rfl ?_
      exact K_Mc_work_b385 n E S r32 a0 a1 a4 x5 x6 x7 1 M r M' hr32 h
  rw [if_neg c_41] at h
  refine zo_tabP (tgt := 390) 2 9 d_Mc_work_186 rfl rfl (fun j hj => by match j, hj with | 0, _ => exact c_19  | 1, _ => exact c_22  | 2, _ => exact c_24  | 3, _ => exact c_26  | 4, _ => exact c_28  | 5, _ => exact c_30  | 6, _ => exact c_31  | 7, _ => exact c_36  | 8, _ => exact c_41 | j + 9, hj => exact absurd hj (by omega)) rfl ?_
  refine zi_iload 7 d_Mc_work_390 rfl ?_
  refine zi_bipush 11 d_Mc_work_392 rfl ?_
  refine zi_icmp_ne (tgt := 408) d_Mc_work_394 rfl (fun c_43 => ?_) (fun c_43 => ?_)
  · rw [if_neg c_43] at h
    refine zi_lload 0 d_Mc_work_408 rfl ?_
    refine zi_lload 9 d_Mc_work_410 rfl ?_
    refine zo_lc_ne d_Mc_work_412 d_Mc_work_413 rfl 416 rfl (fun c_45 => ?_) (fun c_45 => ?_)
    · rw [if_neg c_45] at h
      refine zi_lo [(0, .ref a0), (1, .ref a1), (4, .ref a4), (5, .int x5), (6, .int x6), (7, .int x7)] [1, 2, 3, 4, 5, 6] rfl ?_
      exact K_Mc_work_b420 n E S r32 a0 a1 a4 x5 x6 x7 M r M' hr32 h
    · rw [if_pos c_45] at h
      refine zi_lo [(0, .ref a0), (1, .ref a1), (4, .ref a4), (5, .int x5), (6, .int x6), (7, .int x7)] [1, 2, 3, 4, 5, 6] rfl ?_
      exact K_Mc_work_b416 n E S r32 a0 a1 a4 x5 x6 x7 M r M' hr32 h
  · rw [if_pos c_43] at h
    refine zi_lload 0 d_Mc_work_397 rfl ?_
    refine zi_lload 9 d_Mc_work_399 rfl ?_
    refine zo_lc_le d_Mc_work_401 d_Mc_work_402 rfl 405 rfl (fun c_44 => ?_) (fun c_44 => ?_)
    · rw [if_pos c_44] at h
      refine zi_lo [(0, .ref a0), (1, .ref a1), (4, .ref a4), (5, .int x5), (6, .int x6), (7, .int x7)] [1, 2, 3, 4, 5, 6] rfl ?_
      exact K_Mc_work_b420 n E S r32 a0 a1 a4 x5 x6 x7 M r M' hr32 h
    · rw [if_neg c_44] at h
      refine zi_goto (tgt := 416) d_Mc_work_405 rfl ?_
      refine zi_lo [(0, .ref a0), (1, .ref a1), (4, .ref a4), (5, .int x5), (6, .int x6), (7, .int x7)] [1, 2, 3, 4, 5, 6] rfl ?_
      exact K_Mc_work_b416 n E S r32 a0 a1 a4 x5 x6 x7 M r M' hr32 h
theorem K_Mc_work_b147 (n : Nat) (E : zE) (S : zS) (r32 : Nat × Nat × Nat × Int32 × Int32 × Int32 × zH → Option (Int32 × zH)) (a0 : Nat) (a1 : Nat) (a4 : Nat) (x5 : Int32) (x6 : Int32) (x7 : Int32) (x8 : Int32) (x9 : Int32) (s0 : Int32) (s1 : Int32) (M : zH) (r : Int32) (M' : zH) (hr32 : ∀ (a0 : Nat) (a1 : Nat) (a4 : Nat) (x5 : Int32) (x6 : Int32) (x7 : Int32) (M : zH), r32 (a0, a1, a4, x5, x6, x7, M) = some (r, M') → zG E Y_Mc_work (some (.int r), S, M') 32 [(0, .ref a0), (1, .ref a1), (4, .ref a4), (5, .int x5), (6, .int x6), (7, .int x7)] [] S M 0 0) (h : F_Mc_work_b147 n E S r32 a0 a1 a4 x5 x6 x7 x8 x9 s0 s1 M = some (r, M')) : zG E Y_Mc_work (some (.int r), S, M') 147 [(0, .ref a0), (1, .ref a1), (4, .ref a4), (5, .int x5), (6, .int x6), (7, .int x7), (8, .int x8), (9, .int x9)] [.int s0, .int s1] S M 0 0 := by
  unfold F_Mc_work_b147 at h
  refine zi_icmp_ge (tgt := 153) d_Mc_work_147 rfl (fun c_46 => ?_) (fun c_46 => ?_)
  · rw [if_pos c_46] at h
    refine zi_aload_n 0 d_Mc_work_153 rfl ?_
    obtain ⟨b_47, eb_47, h⟩ := zbind h
    refine zo_getR 157 zkd_2 0 d_Mc_work_154 eb_47 rfl tw_241 rfl ?_
    refine zi_iload 3 d_Mc_work_157 rfl ?_
    obtain ⟨v_48, ev_48, h⟩ := zbind h
    refine zo_iald 160 d_Mc_work_159 ev_48 rfl ?_
    refine zi_i2l d_Mc_work_160 ?_
    refine zi_lstore [(10, .long v_48.toInt64), (0, .ref a0), (1, .ref a1), (4, .ref a4), (5, .int x5), (6, .int x6), (7, .int x7), (8, .int x8), (9, .int x9)] d_Mc_work_161 (by decide) rfl ?_
    refine zi_iload 4 d_Mc_work_163 rfl ?_
    refine zi_if_le (tgt := 181) d_Mc_work_165 rfl (fun c_49 => ?_) (fun c_49 => ?_)
    · rw [if_pos c_49] at h
      refine zi_lconst 0 d_Mc_work_181 rfl ?_
      refine zi_lo [(0, .ref a0), (1, .ref a1), (4, .ref a4), (5, .int x5), (6, .int x6), (7, .int x7), (8, .int x8), (9, .int x9), (10, .long v_48.toInt64)] [1, 2, 3, 4, 5, 6, 7, 8, 0] rfl ?_
      exact K_Mc_work_b182 n E S r32 a0 a1 a4 x5 x6 x7 x8 x9 v_48.toInt64 0 M r M' hr32 h
    · rw [if_neg c_49] at h
      refine zi_aload_n 1 d_Mc_work_168 rfl ?_
      refine zo_getR 172 zkd_2 0 d_Mc_work_169 eb_47 rfl tw_241 rfl ?_
      refine zi_iload 4 d_Mc_work_172 rfl ?_
      refine zi_iconst 1 d_Mc_work_174 rfl ?_
      refine zi_isub d_Mc_work_175 ?_
      obtain ⟨v_50, ev_50, h⟩ := zbind h
      refine zo_iald 177 d_Mc_work_176 ev_50 rfl ?_
      refine zi_i2l d_Mc_work_177 ?_
      refine zi_goto (tgt := 182) d_Mc_work_178 rfl ?_
      refine zi_lo [(0, .ref a0), (1, .ref a1), (4, .ref a4), (5, .int x5), (6, .int x6), (7, .int x7), (8, .int x8), (9, .int x9), (10, .long v_48.toInt64)] [1, 2, 3, 4, 5, 6, 7, 8, 0] rfl ?_
      exact K_Mc_work_b182 n E S r32 a0 a1 a4 x5 x6 x7 x8 x9 v_48.toInt64 v_50.toInt64 M r M' hr32 h
  · rw [if_neg c_46] at h
    refine zi_ldc d_Mc_work_150 tw_431 ?_
    cases h
    exact zo_ret d_Mc_work_152 (Nat.le_of_ble_eq_true rfl) (Nat.le_of_ble_eq_true rfl) rfl
theorem K_Mc_work_L32 (n : Nat) (E : zE) (S : zS) (r32 : Nat × Nat × Nat × Int32 × Int32 × Int32 × zH → Option (Int32 × zH)) (a0 : Nat) (a1 : Nat) (a4 : Nat) (x5 : Int32) (x6 : Int32) (x7 : Int32) (M : zH) (r : Int32) (M' : zH) (hr32 : ∀ (a0 : Nat) (a1 : Nat) (a4 : Nat) (x5 : Int32) (x6 : Int32) (x7 : Int32) (M : zH), r32 (a0, a1, a4, x5, x6, x7, M) = some (r, M') → zG E Y_Mc_work (some (.int r), S, M') 32 [(0, .ref a0), (1, .ref a1), (4, .ref a4), (5, .int x5), (6, .int x6), (7, .int x7)] [] S M 0 0) (h : F_Mc_work_L32 n E S r32 a0 a1 a4 x5 x6 x7 M = some (r, M')) : zG E Y_Mc_work (some (.int r), S, M') 32 [(0, .ref a0), (1, .ref a1), (4, .ref a4), (5, .int x5), (6, .int x6), (7, .int x7)] [] S M 0 0 := by
  unfold F_Mc_work_L32 at h
  refine zi_iload 5 d_Mc_work_32 rfl ?_
  refine zi_iload 4 d_Mc_work_34 rfl ?_
  refine zi_icmp_ge (tgt := 463) d_Mc_work_36 rfl (fun c_51 => ?_) (fun c_51 => ?_)
  · rw [if_pos c_51] at h
    refine zi_iload 3 d_Mc_work_463 rfl ?_
    refine zi_if_ne (tgt := 477) d_Mc_work_465 rfl (fun c_52 => ?_) (fun c_52 => ?_)
    · rw [if_neg c_52] at h
      refine zi_ldc d_Mc_work_477 tw_431 ?_
      cases h
      exact zo_ret d_Mc_work_479 (Nat.le_of_ble_eq_true rfl) (Nat.le_of_ble_eq_true rfl) rfl
    · rw [if_pos c_52] at h
      refine zi_aload_n 0 d_Mc_work_468 rfl ?_
      obtain ⟨b_53, eb_53, h⟩ := zbind h
      refine zo_getR 472 zkd_2 0 d_Mc_work_469 eb_53 rfl tw_241 rfl ?_
      refine zi_iconst 0 d_Mc_work_472 rfl ?_
      obtain ⟨v_54, ev_54, h⟩ := zbind h
      refine zo_iald 474 d_Mc_work_473 ev_54 rfl ?_
      refine zi_goto (tgt := 479) d_Mc_work_474 rfl ?_
      cases h
      exact zo_ret d_Mc_work_479 (Nat.le_of_ble_eq_true rfl) (Nat.le_of_ble_eq_true rfl) rfl
  · rw [if_neg c_51] at h
    refine zi_aload_n 1 d_Mc_work_39 rfl ?_
    obtain ⟨b_55, eb_55, h⟩ := zbind h
    refine zo_getR 43 zkd_9 0 d_Mc_work_40 eb_55 rfl tw_186 rfl ?_
    refine zi_iload 5 d_Mc_work_43 rfl ?_
    obtain ⟨v_56, ev_56, h⟩ := zbind h
    refine zo_iald 46 d_Mc_work_45 ev_56 rfl ?_
    refine zi_bipush 15 d_Mc_work_46 rfl ?_
    refine zi_iand d_Mc_work_48 ?_
    refine zi_istore [(8, .int (v_56 &&& (15 : Int32))), (0, .ref a0), (1, .ref a1), (4, .ref a4), (5, .int x5), (6, .int x6), (7, .int x7)] d_Mc_work_49 (by decide) rfl ?_
    refine zi_aload_n 2 d_Mc_work_51 rfl ?_
    refine zo_getR 55 zkd_9 0 d_Mc_work_52 eb_55 rfl tw_186 rfl ?_
    refine zi_iload 6 d_Mc_work_55 rfl ?_
    obtain ⟨v_57, ev_57, h⟩ := zbind h
    refine zo_iald 58 d_Mc_work_57 ev_57 rfl ?_
    refine zi_iconst 4 d_Mc_work_58 rfl ?_
    refine zi_ishr d_Mc_work_59 ?_
    refine zi_istore [(9, .int (v_57 >>> ((4 : Int32) &&& (31 : Int32)))), (8, .int (v_56 &&& (15 : Int32))), (0, .ref a0), (1, .ref a1), (4, .ref a4), (5, .int x5), (6, .int x6), (7, .int x7)] d_Mc_work_60 (by decide) rfl ?_
    refine zi_iload 1 d_Mc_work_62 rfl ?_
    refine zi_if_eq (tgt := 73) d_Mc_work_64 rfl (fun c_58 => ?_) (fun c_58 => ?_)
    · rw [if_pos c_58] at h
      refine zi_lo [(0, .ref a0), (1, .ref a1), (4, .ref a4), (5, .int x5), (6, .int x6), (7, .int x7), (8, .int (v_56 &&& (15 : Int32))), (9, .int (v_57 >>> ((4 : Int32) &&& (31 : Int32))))] [2, 3, 4, 5, 6, 7, 1, 0] rfl ?_
      exact K_Mc_work_b73 n E S r32 a0 a1 a4 x5 x6 x7 (v_56 &&& (15 : Int32)) (v_57 >>> ((4 : Int32) &&& (31 : Int32))) M r M' hr32 h
    · rw [if_neg c_58] at h
      refine zi_iload 1 d_Mc_work_67 rfl ?_
      refine zi_iconst 1 d_Mc_work_69 rfl ?_
      refine zi_icmp_ne (tgt := 134) d_Mc_work_70 rfl (fun c_59 => ?_) (fun c_59 => ?_)
      · rw [if_neg c_59] at h
        refine zi_iload 5 d_Mc_work_134 rfl ?_
        refine zi_iload 1 d_Mc_work_136 rfl ?_
        refine zi_iconst 4 d_Mc_work_138 rfl ?_
        refine zi_icmp_gt (tgt := 146) d_Mc_work_139 rfl (fun c_60 => ?_) (fun c_60 => ?_)
        · rw [if_pos c_60] at h
          refine zi_iconst 1 d_Mc_work_146 rfl ?_
          refine zi_lo [(0, .ref a0), (1, .ref a1), (4, .ref a4), (5, .int x5), (6, .int x6), (7, .int x7), (8, .int (v_56 &&& (15 : Int32))), (9, .int (v_57 >>> ((4 : Int32) &&& (31 : Int32))))] [2, 3, 4, 5, 6, 7, 1, 0] rfl ?_
          exact K_Mc_work_b147 n E S r32 a0 a1 a4 x5 x6 x7 (v_56 &&& (15 : Int32)) (v_57 >>> ((4 : Int32) &&& (31 : Int32))) 1 x5 M r M' hr32 h
        · rw [if_neg c_60] at h
          refine zi_iconst 0 d_Mc_work_142 rfl ?_
          refine zi_goto (tgt := 147) d_Mc_work_143 rfl ?_
          refine zi_lo [(0, .ref a0), (1, .ref a1), (4, .ref a4), (5, .int x5), (6, .int x6), (7, .int x7), (8, .int (v_56 &&& (15 : Int32))), (9, .int (v_57 >>> ((4 : Int32) &&& (31 : Int32))))] [2, 3, 4, 5, 6, 7, 1, 0] rfl ?_
          exact K_Mc_work_b147 n E S r32 a0 a1 a4 x5 x6 x7 (v_56 &&& (15 : Int32)) (v_57 >>> ((4 : Int32) &&& (31 : Int32))) 0 x5 M r M' hr32 h
      · rw [if_pos c_59] at h
        refine zi_lo [(0, .ref a0), (1, .ref a1), (4, .ref a4), (5, .int x5), (6, .int x6), (7, .int x7), (8, .int (v_56 &&& (15 : Int32))), (9, .int (v_57 >>> ((4 : Int32) &&& (31 : Int32))))] [2, 3, 4, 5, 6, 7, 1, 0] rfl ?_
        exact K_Mc_work_b73 n E S r32 a0 a1 a4 x5 x6 x7 (v_56 &&& (15 : Int32)) (v_57 >>> ((4 : Int32) &&& (31 : Int32))) M r M' hr32 h
theorem K_Mc_work_b32 (n : Nat) (E : zE) (S : zS) (a0 : Nat) (a1 : Nat) (a4 : Nat) (x5 : Int32) (x6 : Int32) (x7 : Int32) (M : zH) (r : Int32) (M' : zH)  (h : F_Mc_work_b32 n E S (a0, a1, a4, x5, x6, x7, M) = some (r, M')) : zG E Y_Mc_work (some (.int r), S, M') 32 [(0, .ref a0), (1, .ref a1), (4, .ref a4), (5, .int x5), (6, .int x6), (7, .int x7)] [] S M 0 0 := by
  have key : ∀ (k : Nat) (a0 : Nat) (a1 : Nat) (a4 : Nat) (x5 : Int32) (x6 : Int32) (x7 : Int32) (M : zH), zfix (fun r32 s => F_Mc_work_L32 n E S r32 s.1 s.2.1 s.2.2.1 s.2.2.2.1 s.2.2.2.2.1 s.2.2.2.2.2.1 s.2.2.2.2.2.2) k (a0, a1, a4, x5, x6, x7, M) = some (r, M') → zG E Y_Mc_work (some (.int r), S, M') 32 [(0, .ref a0), (1, .ref a1), (4, .ref a4), (5, .int x5), (6, .int x6), (7, .int x7)] [] S M 0 0 := by
    intro k
    induction k with
    | zero => intro a0 a1 a4 x5 x6 x7 M h; cases h
    | succ k ih => intro a0 a1 a4 x5 x6 x7 M h; exact K_Mc_work_L32 n E S _ a0 a1 a4 x5 x6 x7 M r M'  (fun a0 a1 a4 x5 x6 x7 M h => ih a0 a1 a4 x5 x6 x7 M h) h
  exact key n a0 a1 a4 x5 x6 x7 M h
theorem K_Mc_work_b30 (n : Nat) (E : zE) (S : zS) (a0 : Nat) (a1 : Nat) (a4 : Nat) (x5 : Int32) (x6 : Int32) (s0 : Int32) (M : zH) (r : Int32) (M' : zH)  (h : F_Mc_work_b30 n E S a0 a1 a4 x5 x6 s0 M = some (r, M')) : zG E Y_Mc_work (some (.int r), S, M') 30 [(0, .ref a0), (1, .ref a1), (4, .ref a4), (5, .int x5), (6, .int x6)] [.int s0] S M 0 0 := by
  unfold F_Mc_work_b30 at h
  refine zi_istore [(7, .int s0), (0, .ref a0), (1, .ref a1), (4, .ref a4), (5, .int x5), (6, .int x6)] d_Mc_work_30 (by decide) rfl ?_
  refine zi_lo [(0, .ref a0), (1, .ref a1), (4, .ref a4), (5, .int x5), (6, .int x6), (7, .int s0)] [1, 2, 3, 4, 5, 0] rfl ?_
  exact K_Mc_work_b32 n E S a0 a1 a4 x5 x6 s0 M r M'  h
theorem K_Mc_work_b19 (n : Nat) (E : zE) (S : zS) (a0 : Nat) (a1 : Nat) (x2 : Int32) (a4 : Nat) (x5 : Int32) (s0 : Int32) (M : zH) (r : Int32) (M' : zH)  (h : F_Mc_work_b19 n E S a0 a1 x2 a4 x5 s0 M = some (r, M')) : zG E Y_Mc_work (some (.int r), S, M') 19 [(0, .ref a0), (1, .ref a1), (2, .int x2), (4, .ref a4), (5, .int x5)] [.int s0] S M 0 0 := by
  unfold F_Mc_work_b19 at h
  refine zi_istore [(6, .int s0), (0, .ref a0), (1, .ref a1), (2, .int x2), (4, .ref a4), (5, .int x5)] d_Mc_work_19 (by decide) rfl ?_
  refine zi_iload_n 3 d_Mc_work_21 rfl ?_
  refine zi_if_le (tgt := 29) d_Mc_work_22 rfl (fun c_61 => ?_) (fun c_61 => ?_)
  · rw [if_pos c_61] at h
    refine zi_iconst 0 d_Mc_work_29 rfl ?_
    refine zi_lo [(0, .ref a0), (1, .ref a1), (4, .ref a4), (5, .int x5), (6, .int s0)] [1, 2, 4, 5, 0] rfl ?_
    exact K_Mc_work_b30 n E S a0 a1 a4 x5 s0 0 M r M'  h
  · rw [if_neg c_61] at h
    refine zi_iload_n 3 d_Mc_work_25 rfl ?_
    refine zi_goto (tgt := 30) d_Mc_work_26 rfl ?_
    refine zi_lo [(0, .ref a0), (1, .ref a1), (4, .ref a4), (5, .int x5), (6, .int s0)] [1, 2, 4, 5, 0] rfl ?_
    exact K_Mc_work_b30 n E S a0 a1 a4 x5 s0 x2 M r M'  h
theorem K_Mc_work (n : Nat) (E : zE) (S : zS) (a0 : Nat) (a1 : Nat) (x2 : Int32) (x3 : Int32) (a4 : Nat) (M : zH) (r : Int32) (M' : zH)  (h : F_Mc_work n E S a0 a1 x2 x3 a4 M = some (r, M')) : zG E Y_Mc_work (some (.int r), S, M') 0 [(0, .ref a0), (1, .ref a1), (2, .int x2), (3, .int x3), (4, .ref a4)] [] S M 0 0 := by
  unfold F_Mc_work at h
  refine zi_iconst (-1) d_Mc_work_0 rfl ?_
  refine zi_istore [(5, .int (-1)), (0, .ref a0), (1, .ref a1), (2, .int x2), (3, .int x3), (4, .ref a4)] d_Mc_work_1 (by decide) rfl ?_
  refine zi_iload_n 4 d_Mc_work_3 rfl ?_
  refine zi_aload_n 2 d_Mc_work_4 rfl ?_
  obtain ⟨v_62, ev_62, h⟩ := zbind h
  refine zo_getI 8 zkd_9 5 d_Mc_work_5 ev_62 rfl tw_196 rfl ?_
  refine zi_icmp_ge (tgt := 15) d_Mc_work_8 rfl (fun c_63 => ?_) (fun c_63 => ?_)
  · rw [if_pos c_63] at h
    refine zi_aload_n 2 d_Mc_work_15 rfl ?_
    obtain ⟨v_64, ev_64, h⟩ := zbind h
    refine zo_getI 19 zkd_9 5 d_Mc_work_16 ev_64 rfl tw_196 rfl ?_
    refine zi_lo [(0, .ref a0), (1, .ref a1), (2, .int x2), (4, .ref a4), (5, .int (-1))] [1, 2, 3, 5, 0] rfl ?_
    exact K_Mc_work_b19 n E S a0 a1 x2 a4 (-1) v_64 M r M'  h
  · rw [if_neg c_63] at h
    refine zi_iload_n 4 d_Mc_work_11 rfl ?_
    refine zi_goto (tgt := 19) d_Mc_work_12 rfl ?_
    refine zi_lo [(0, .ref a0), (1, .ref a1), (2, .int x2), (4, .ref a4), (5, .int (-1))] [1, 2, 3, 5, 0] rfl ?_
    exact K_Mc_work_b19 n E S a0 a1 x2 a4 (-1) x3 M r M'  h
theorem C_Mc_work (n : Nat) (E : zE) (S : zS) (a0 : Nat) (a1 : Nat) (x2 : Int32) (x3 : Int32) (a4 : Nat) (M : zH) (r : Int32) (M' : zH) (h : F_Mc_work n E S a0 a1 x2 x3 a4 M = some (r, M')) : zC E Y_Mc_work [.ref a0, .ref a1, .int x2, .int x3, .ref a4] S M (some (.int r), S, M') :=
  zC.of (Or.inl (show plainName "NightColander$Machine" = true by decide)) (Nat.le_of_ble_eq_true rfl) (trivial) (K_Mc_work n E S a0 a1 x2 x3 a4 M r M' h)
