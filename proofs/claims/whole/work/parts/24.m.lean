/-! METHODS (printed by gen/build.py): Js_length Ta_indexIn Ps_readPart Jl_canEncode Jl_indexOfChar Jl_indexOf Js_indexOf2 Js_indexOf Ta_signIn Ps_readTerm Ps_readSum Te_mark Ps_readLaw Ta_atWord Ps_readTwoSums Te_setTimes -/
theorem d_Js_length_0 : decode (yB Y_Js_length) 0 = .ok (.aload_n 0, 1) := by decide +kernel
theorem d_Js_length_1 : decode (yB Y_Js_length) 1 = .ok (.getfield 9, 3) := by decide +kernel
theorem d_Js_length_4 : decode (yB Y_Js_length) 4 = .ok (.arraylength, 1) := by decide +kernel
theorem d_Js_length_5 : decode (yB Y_Js_length) 5 = .ok (.aload_n 0, 1) := by decide +kernel
theorem d_Js_length_6 : decode (yB Y_Js_length) 6 = .ok (.invokevirtual 335, 3) := by decide +kernel
theorem d_Js_length_9 : decode (yB Y_Js_length) 9 = .ok (.ishr, 1) := by decide +kernel
theorem d_Js_length_10 : decode (yB Y_Js_length) 10 = .ok (.ireturn, 1) := by decide +kernel
def F_Js_length (n : Nat) (E : zE) (S : zS) (i0 : Nat) (M : zH) : Option (Int32 × zH) :=
  (zli i0).bind fun u_1 =>
  (zln i0).bind fun v_2 =>
  (zli i0).bind fun u_3 =>
  (F_Js_coder n E S i0 M).bind fun q_4 =>
  some (v_2 >>> (q_4.1 &&& (31 : Int32)), q_4.2)
theorem K_Js_length (n : Nat) (E : zE) (S : zS) (i0 : Nat) (M : zH) (r : Int32) (M' : zH)  (h : F_Js_length n E S i0 M = some (r, M')) : zG E Y_Js_length (some (.int r), S, M') 0 [(0, .ref (eK E i0))] [] S M 0 0 := by
  unfold F_Js_length at h
  refine zi_aload_n 0 d_Js_length_0 rfl ?_
  obtain ⟨u_1, eu_1, h⟩ := zbind h
  refine zo_litf 4 d_Js_length_1 (zlitV E (zli_s eu_1)) tw_1913 rfl ?_
  obtain ⟨v_2, ev_2, h⟩ := zbind h
  refine zo_litlen 5 d_Js_length_4 ev_2 rfl ?_
  refine zi_aload_n 0 d_Js_length_5 rfl ?_
  obtain ⟨u_3, eu_3, h⟩ := zbind h
  obtain ⟨q_4, eq_4, h⟩ := zbind h
  refine zo_virtS (k' := 0) (n' := 0) 9 [] [.int v_2] [.int q_4.1, .int v_2] (zli_s eu_3) (C_Js_coder n E S i0 M q_4.1 q_4.2 eq_4) d_Js_length_6 tw_601 tw_598 tw_599 tw_600 tw_15 dd_Js_coder ⟨Nat.le_of_ble_eq_true rfl, Nat.le_of_ble_eq_true rfl, Nat.le_of_ble_eq_true rfl, Nat.le_of_ble_eq_true rfl⟩ (Nat.le_of_ble_eq_true rfl) rfl rfl rfl rfl ?_
  refine zi_ishr d_Js_length_9 ?_
  cases h
  exact zo_ret d_Js_length_10 (Nat.le_of_ble_eq_true rfl) (Nat.le_of_ble_eq_true rfl) rfl
theorem C_Js_length (n : Nat) (E : zE) (S : zS) (i0 : Nat) (M : zH) (r : Int32) (M' : zH) (h : F_Js_length n E S i0 M = some (r, M')) : zC E Y_Js_length [.ref (eK E i0)] S M (some (.int r), S, M') :=
  zC.of (Or.inl (show plainName "java/lang/String" = true by decide)) (Nat.le_of_ble_eq_true rfl) (trivial) (K_Js_length n E S i0 M r M' h)
theorem d_Ta_indexIn_0 : decode (yB Y_Ta_indexIn) 0 = .ok (.aload_n 0, 1) := by decide +kernel
theorem d_Ta_indexIn_1 : decode (yB Y_Ta_indexIn) 1 = .ok (.getfield 19, 3) := by decide +kernel
theorem d_Ta_indexIn_4 : decode (yB Y_Ta_indexIn) 4 = .ok (.iconst 1, 1) := by decide +kernel
theorem d_Ta_indexIn_5 : decode (yB Y_Ta_indexIn) 5 = .ok (.if_icmp .eq 5, 3) := by decide +kernel
theorem d_Ta_indexIn_8 : decode (yB Y_Ta_indexIn) 8 = .ok (.iconst (-1), 1) := by decide +kernel
theorem d_Ta_indexIn_9 : decode (yB Y_Ta_indexIn) 9 = .ok (.ireturn, 1) := by decide +kernel
theorem d_Ta_indexIn_10 : decode (yB Y_Ta_indexIn) 10 = .ok (.iconst 0, 1) := by decide +kernel
theorem d_Ta_indexIn_11 : decode (yB Y_Ta_indexIn) 11 = .ok (.istore_n 2, 1) := by decide +kernel
theorem d_Ta_indexIn_12 : decode (yB Y_Ta_indexIn) 12 = .ok (.iconst 0, 1) := by decide +kernel
theorem d_Ta_indexIn_13 : decode (yB Y_Ta_indexIn) 13 = .ok (.istore_n 3, 1) := by decide +kernel
theorem d_Ta_indexIn_14 : decode (yB Y_Ta_indexIn) 14 = .ok (.iconst 0, 1) := by decide +kernel
theorem d_Ta_indexIn_15 : decode (yB Y_Ta_indexIn) 15 = .ok (.istore 4, 2) := by decide +kernel
theorem d_Ta_indexIn_17 : decode (yB Y_Ta_indexIn) 17 = .ok (.iload 4, 2) := by decide +kernel
theorem d_Ta_indexIn_19 : decode (yB Y_Ta_indexIn) 19 = .ok (.aload_n 1, 1) := by decide +kernel
theorem d_Ta_indexIn_20 : decode (yB Y_Ta_indexIn) 20 = .ok (.invokevirtual 51, 3) := by decide +kernel
theorem d_Ta_indexIn_23 : decode (yB Y_Ta_indexIn) 23 = .ok (.if_icmp .ge 41, 3) := by decide +kernel
theorem d_Ta_indexIn_26 : decode (yB Y_Ta_indexIn) 26 = .ok (.aload_n 1, 1) := by decide +kernel
theorem d_Ta_indexIn_27 : decode (yB Y_Ta_indexIn) 27 = .ok (.iload 4, 2) := by decide +kernel
theorem d_Ta_indexIn_29 : decode (yB Y_Ta_indexIn) 29 = .ok (.invokevirtual 64, 3) := by decide +kernel
theorem d_Ta_indexIn_32 : decode (yB Y_Ta_indexIn) 32 = .ok (.bipush 32, 2) := by decide +kernel
theorem d_Ta_indexIn_34 : decode (yB Y_Ta_indexIn) 34 = .ok (.if_icmp .ne 24, 3) := by decide +kernel
theorem d_Ta_indexIn_37 : decode (yB Y_Ta_indexIn) 37 = .ok (.aload_n 0, 1) := by decide +kernel
theorem d_Ta_indexIn_38 : decode (yB Y_Ta_indexIn) 38 = .ok (.aload_n 1, 1) := by decide +kernel
theorem d_Ta_indexIn_39 : decode (yB Y_Ta_indexIn) 39 = .ok (.iload_n 3, 1) := by decide +kernel
theorem d_Ta_indexIn_40 : decode (yB Y_Ta_indexIn) 40 = .ok (.iload 4, 2) := by decide +kernel
theorem d_Ta_indexIn_42 : decode (yB Y_Ta_indexIn) 42 = .ok (.invokevirtual 56, 3) := by decide +kernel
theorem d_Ta_indexIn_45 : decode (yB Y_Ta_indexIn) 45 = .ok (.ifCond .eq 5, 3) := by decide +kernel
theorem d_Ta_indexIn_48 : decode (yB Y_Ta_indexIn) 48 = .ok (.iload_n 2, 1) := by decide +kernel
theorem d_Ta_indexIn_49 : decode (yB Y_Ta_indexIn) 49 = .ok (.ireturn, 1) := by decide +kernel
theorem d_Ta_indexIn_50 : decode (yB Y_Ta_indexIn) 50 = .ok (.iinc 2 1, 3) := by decide +kernel
theorem d_Ta_indexIn_53 : decode (yB Y_Ta_indexIn) 53 = .ok (.iload 4, 2) := by decide +kernel
theorem d_Ta_indexIn_55 : decode (yB Y_Ta_indexIn) 55 = .ok (.iconst 1, 1) := by decide +kernel
theorem d_Ta_indexIn_56 : decode (yB Y_Ta_indexIn) 56 = .ok (.iadd, 1) := by decide +kernel
theorem d_Ta_indexIn_57 : decode (yB Y_Ta_indexIn) 57 = .ok (.istore_n 3, 1) := by decide +kernel
theorem d_Ta_indexIn_58 : decode (yB Y_Ta_indexIn) 58 = .ok (.iinc 4 1, 3) := by decide +kernel
theorem d_Ta_indexIn_61 : decode (yB Y_Ta_indexIn) 61 = .ok (.goto (-44), 3) := by decide +kernel
theorem d_Ta_indexIn_64 : decode (yB Y_Ta_indexIn) 64 = .ok (.iconst (-1), 1) := by decide +kernel
theorem d_Ta_indexIn_65 : decode (yB Y_Ta_indexIn) 65 = .ok (.ireturn, 1) := by decide +kernel
def F_Ta_indexIn_b58 (n : Nat) (E : zE) (S : zS) (r17 : Nat × Nat × Int32 × Int32 × Int32 × zH → Option (Int32 × zH)) (a0 : Nat) (i1 : Nat) (x2 : Int32) (x3 : Int32) (x4 : Int32) (M : zH) : Option (Int32 × zH) :=
  r17 (a0, i1, x2, x3, x4 + 1, M)
def F_Ta_indexIn_L17 (n : Nat) (E : zE) (S : zS) (r17 : Nat × Nat × Int32 × Int32 × Int32 × zH → Option (Int32 × zH)) (a0 : Nat) (i1 : Nat) (x2 : Int32) (x3 : Int32) (x4 : Int32) (M : zH) : Option (Int32 × zH) :=
  (zli i1).bind fun u_1 =>
  (F_Js_length n E S i1 M).bind fun q_2 =>
  if q_2.1 ≤ x4 then
    some ((-1), q_2.2)
  else
    (zli i1).bind fun u_4 =>
    (F_Js_charAt n E S i1 x4 q_2.2).bind fun q_5 =>
    if q_5.1 = 32 then
      (zck S a0 8).bind fun u_7 =>
      (F_Ta_isSame n E S a0 i1 x3 x4 q_5.2).bind fun q_8 =>
      if q_8.1 = true then
        some (x2, q_8.2)
      else
        F_Ta_indexIn_b58 n E S r17 a0 i1 (x2 + 1) (x4 + 1) x4 q_8.2
    else
      F_Ta_indexIn_b58 n E S r17 a0 i1 x2 x3 x4 q_5.2
def F_Ta_indexIn_b17 (n : Nat) (E : zE) (S : zS) : Nat × Nat × Int32 × Int32 × Int32 × zH → Option (Int32 × zH) := zfix (fun r17 s => F_Ta_indexIn_L17 n E S r17 s.1 s.2.1 s.2.2.1 s.2.2.2.1 s.2.2.2.2.1 s.2.2.2.2.2) n
def F_Ta_indexIn (n : Nat) (E : zE) (S : zS) (a0 : Nat) (i1 : Nat) (M : zH) : Option (Int32 × zH) :=
  (zgI S M a0 8 2).bind fun v_10 =>
  if v_10 = 1 then
    F_Ta_indexIn_b17 n E S (a0, i1, 0, 0, 0, M)
  else
    some ((-1), M)
theorem K_Ta_indexIn_b58 (n : Nat) (E : zE) (S : zS) (r17 : Nat × Nat × Int32 × Int32 × Int32 × zH → Option (Int32 × zH)) (a0 : Nat) (i1 : Nat) (x2 : Int32) (x3 : Int32) (x4 : Int32) (M : zH) (r : Int32) (M' : zH) (hr17 : ∀ (a0 : Nat) (i1 : Nat) (x2 : Int32) (x3 : Int32) (x4 : Int32) (M : zH), r17 (a0, i1, x2, x3, x4, M) = some (r, M') → zG E Y_Ta_indexIn (some (.int r), S, M') 17 [(0, .ref a0), (1, .ref (eK E i1)), (2, .int x2), (3, .int x3), (4, .int x4)] [] S M 0 0) (h : F_Ta_indexIn_b58 n E S r17 a0 i1 x2 x3 x4 M = some (r, M')) : zG E Y_Ta_indexIn (some (.int r), S, M') 58 [(0, .ref a0), (1, .ref (eK E i1)), (2, .int x2), (3, .int x3), (4, .int x4)] [] S M 0 0 := by
  unfold F_Ta_indexIn_b58 at h
  refine zi_iinc 4 (x4 + 1) [(4, .int (x4 + 1)), (0, .ref a0), (1, .ref (eK E i1)), (2, .int x2), (3, .int x3)] d_Ta_indexIn_58 rfl rfl (by decide) rfl ?_
  refine zi_goto (tgt := 17) d_Ta_indexIn_61 rfl ?_
  refine zi_lo [(0, .ref a0), (1, .ref (eK E i1)), (2, .int x2), (3, .int x3), (4, .int (x4 + 1))] [1, 2, 3, 4, 0] rfl ?_
  exact hr17 a0 i1 x2 x3 (x4 + 1) M h
theorem K_Ta_indexIn_L17 (n : Nat) (E : zE) (S : zS) (r17 : Nat × Nat × Int32 × Int32 × Int32 × zH → Option (Int32 × zH)) (a0 : Nat) (i1 : Nat) (x2 : Int32) (x3 : Int32) (x4 : Int32) (M : zH) (r : Int32) (M' : zH) (hr17 : ∀ (a0 : Nat) (i1 : Nat) (x2 : Int32) (x3 : Int32) (x4 : Int32) (M : zH), r17 (a0, i1, x2, x3, x4, M) = some (r, M') → zG E Y_Ta_indexIn (some (.int r), S, M') 17 [(0, .ref a0), (1, .ref (eK E i1)), (2, .int x2), (3, .int x3), (4, .int x4)] [] S M 0 0) (h : F_Ta_indexIn_L17 n E S r17 a0 i1 x2 x3 x4 M = some (r, M')) : zG E Y_Ta_indexIn (some (.int r), S, M') 17 [(0, .ref a0), (1, .ref (eK E i1)), (2, .int x2), (3, .int x3), (4, .int x4)] [] S M 0 0 := by
  unfold F_Ta_indexIn_L17 at h
  refine zi_iload 4 d_Ta_indexIn_17 rfl ?_
  refine zi_aload_n 1 d_Ta_indexIn_19 rfl ?_
  obtain ⟨u_1, eu_1, h⟩ := zbind h
  obtain ⟨q_2, eq_2, h⟩ := zbind h
  refine zo_virtS (k' := 0) (n' := 0) 23 [] [.int x4] [.int q_2.1, .int x4] (zli_s eu_1) (C_Js_length n E S i1 M q_2.1 q_2.2 eq_2) d_Ta_indexIn_20 tw_597 tw_594 tw_595 tw_596 tw_15 dd_Js_length ⟨Nat.le_of_ble_eq_true rfl, Nat.le_of_ble_eq_true rfl, Nat.le_of_ble_eq_true rfl, Nat.le_of_ble_eq_true rfl⟩ (Nat.le_of_ble_eq_true rfl) rfl rfl rfl rfl ?_
  refine zi_icmp_ge (tgt := 64) d_Ta_indexIn_23 rfl (fun c_3 => ?_) (fun c_3 => ?_)
  · rw [if_pos c_3] at h
    refine zi_iconst (-1) d_Ta_indexIn_64 rfl ?_
    cases h
    exact zo_ret d_Ta_indexIn_65 (Nat.le_of_ble_eq_true rfl) (Nat.le_of_ble_eq_true rfl) rfl
  · rw [if_neg c_3] at h
    refine zi_aload_n 1 d_Ta_indexIn_26 rfl ?_
    refine zi_iload 4 d_Ta_indexIn_27 rfl ?_
    obtain ⟨u_4, eu_4, h⟩ := zbind h
    obtain ⟨q_5, eq_5, h⟩ := zbind h
    refine zo_virtS (k' := 0) (n' := 0) 32 [.int x4] [] [.int q_5.1] (zli_s eu_4) (C_Js_charAt n E S i1 x4 q_2.2 q_5.1 q_5.2 eq_5) d_Ta_indexIn_29 tw_607 tw_604 tw_605 tw_606 tw_15 dd_Js_charAt ⟨Nat.le_of_ble_eq_true rfl, Nat.le_of_ble_eq_true rfl, Nat.le_of_ble_eq_true rfl, Nat.le_of_ble_eq_true rfl⟩ (Nat.le_of_ble_eq_true rfl) rfl rfl rfl rfl ?_
    refine zi_bipush 32 d_Ta_indexIn_32 rfl ?_
    refine zi_icmp_ne (tgt := 58) d_Ta_indexIn_34 rfl (fun c_6 => ?_) (fun c_6 => ?_)
    · rw [if_neg c_6] at h
      refine zi_lo [(0, .ref a0), (1, .ref (eK E i1)), (2, .int x2), (3, .int x3), (4, .int x4)] [0, 1, 2, 3, 4] rfl ?_
      exact K_Ta_indexIn_b58 n E S r17 a0 i1 x2 x3 x4 q_5.2 r M' hr17 h
    · rw [if_pos c_6] at h
      refine zi_aload_n 0 d_Ta_indexIn_37 rfl ?_
      refine zi_aload_n 1 d_Ta_indexIn_38 rfl ?_
      refine zi_iload_n 3 d_Ta_indexIn_39 rfl ?_
      refine zi_iload 4 d_Ta_indexIn_40 rfl ?_
      obtain ⟨u_7, eu_7, h⟩ := zbind h
      obtain ⟨q_8, eq_8, h⟩ := zbind h
      refine zo_virt (k' := 0) (n' := 0) 45 [.ref (eK E i1), .int x3, .int x4] [] [.int (bI q_8.1)] zkd_8 (zck_s eu_7) (C_Ta_isSame n E S a0 i1 x3 x4 q_5.2 q_8.1 q_8.2 eq_8) d_Ta_indexIn_42 tw_645 tw_642 tw_644 ts_7 tw_5 dd_Ta_isSame ⟨Nat.le_of_ble_eq_true rfl, Nat.le_of_ble_eq_true rfl, Nat.le_of_ble_eq_true rfl, Nat.le_of_ble_eq_true rfl⟩ (Nat.le_of_ble_eq_true rfl) rfl rfl rfl rfl ?_
      refine zo_ifeqB d_Ta_indexIn_45 rfl 48 rfl (fun c_9 => ?_) (fun c_9 => ?_)
      · rw [if_neg c_9] at h
        refine zi_iinc 2 (x2 + 1) [(2, .int (x2 + 1)), (0, .ref a0), (1, .ref (eK E i1)), (3, .int x3), (4, .int x4)] d_Ta_indexIn_50 rfl rfl (by decide) rfl ?_
        refine zi_iload 4 d_Ta_indexIn_53 rfl ?_
        refine zi_iconst 1 d_Ta_indexIn_55 rfl ?_
        refine zi_iadd d_Ta_indexIn_56 ?_
        refine zi_istore_n [(3, .int (x4 + 1)), (2, .int (x2 + 1)), (0, .ref a0), (1, .ref (eK E i1)), (4, .int x4)] d_Ta_indexIn_57 (by decide) rfl ?_
        refine zi_lo [(0, .ref a0), (1, .ref (eK E i1)), (2, .int (x2 + 1)), (3, .int (x4 + 1)), (4, .int x4)] [2, 3, 1, 0, 4] rfl ?_
        exact K_Ta_indexIn_b58 n E S r17 a0 i1 (x2 + 1) (x4 + 1) x4 q_8.2 r M' hr17 h
      · rw [if_pos c_9] at h
        refine zi_iload_n 2 d_Ta_indexIn_48 rfl ?_
        cases h
        exact zo_ret d_Ta_indexIn_49 (Nat.le_of_ble_eq_true rfl) (Nat.le_of_ble_eq_true rfl) rfl
theorem K_Ta_indexIn_b17 (n : Nat) (E : zE) (S : zS) (a0 : Nat) (i1 : Nat) (x2 : Int32) (x3 : Int32) (x4 : Int32) (M : zH) (r : Int32) (M' : zH)  (h : F_Ta_indexIn_b17 n E S (a0, i1, x2, x3, x4, M) = some (r, M')) : zG E Y_Ta_indexIn (some (.int r), S, M') 17 [(0, .ref a0), (1, .ref (eK E i1)), (2, .int x2), (3, .int x3), (4, .int x4)] [] S M 0 0 := by
  have key : ∀ (k : Nat) (a0 : Nat) (i1 : Nat) (x2 : Int32) (x3 : Int32) (x4 : Int32) (M : zH), zfix (fun r17 s => F_Ta_indexIn_L17 n E S r17 s.1 s.2.1 s.2.2.1 s.2.2.2.1 s.2.2.2.2.1 s.2.2.2.2.2) k (a0, i1, x2, x3, x4, M) = some (r, M') → zG E Y_Ta_indexIn (some (.int r), S, M') 17 [(0, .ref a0), (1, .ref (eK E i1)), (2, .int x2), (3, .int x3), (4, .int x4)] [] S M 0 0 := by
    intro k
    induction k with
    | zero => intro a0 i1 x2 x3 x4 M h; cases h
    | succ k ih => intro a0 i1 x2 x3 x4 M h; exact K_Ta_indexIn_L17 n E S _ a0 i1 x2 x3 x4 M r M'  (fun a0 i1 x2 x3 x4 M h => ih a0 i1 x2 x3 x4 M h) h
  exact key n a0 i1 x2 x3 x4 M h
theorem K_Ta_indexIn (n : Nat) (E : zE) (S : zS) (a0 : Nat) (i1 : Nat) (M : zH) (r : Int32) (M' : zH)  (h : F_Ta_indexIn n E S a0 i1 M = some (r, M')) : zG E Y_Ta_indexIn (some (.int r), S, M') 0 [(0, .ref a0), (1, .ref (eK E i1))] [] S M 0 0 := by
  unfold F_Ta_indexIn at h
  refine zi_aload_n 0 d_Ta_indexIn_0 rfl ?_
  obtain ⟨v_10, ev_10, h⟩ := zbind h
  refine zo_getI 4 zkd_8 2 d_Ta_indexIn_1 ev_10 rfl tw_155 rfl ?_
  refine zi_iconst 1 d_Ta_indexIn_4 rfl ?_
  refine zi_icmp_eq (tgt := 10) d_Ta_indexIn_5 rfl (fun c_11 => ?_) (fun c_11 => ?_)
  · rw [if_pos c_11] at h
    refine zi_iconst 0 d_Ta_indexIn_10 rfl ?_
    refine zi_istore_n [(2, .int 0), (0, .ref a0), (1, .ref (eK E i1))] d_Ta_indexIn_11 (by decide) rfl ?_
    refine zi_iconst 0 d_Ta_indexIn_12 rfl ?_
    refine zi_istore_n [(3, .int 0), (2, .int 0), (0, .ref a0), (1, .ref (eK E i1))] d_Ta_indexIn_13 (by decide) rfl ?_
    refine zi_iconst 0 d_Ta_indexIn_14 rfl ?_
    refine zi_istore [(4, .int 0), (3, .int 0), (2, .int 0), (0, .ref a0), (1, .ref (eK E i1))] d_Ta_indexIn_15 (by decide) rfl ?_
    refine zi_lo [(0, .ref a0), (1, .ref (eK E i1)), (2, .int 0), (3, .int 0), (4, .int 0)] [3, 4, 2, 1, 0] rfl ?_
    exact K_Ta_indexIn_b17 n E S a0 i1 0 0 0 M r M'  h
  · rw [if_neg c_11] at h
    refine zi_iconst (-1) d_Ta_indexIn_8 rfl ?_
    cases h
    exact zo_ret d_Ta_indexIn_9 (Nat.le_of_ble_eq_true rfl) (Nat.le_of_ble_eq_true rfl) rfl
theorem C_Ta_indexIn (n : Nat) (E : zE) (S : zS) (a0 : Nat) (i1 : Nat) (M : zH) (r : Int32) (M' : zH) (h : F_Ta_indexIn n E S a0 i1 M = some (r, M')) : zC E Y_Ta_indexIn [.ref a0, .ref (eK E i1)] S M (some (.int r), S, M') :=
  zC.of (Or.inl (show plainName "NightColander$Tape" = true by decide)) (Nat.le_of_ble_eq_true rfl) (trivial) (K_Ta_indexIn n E S a0 i1 M r M' h)
theorem d_Ps_readPart_0 : decode prog_7_method_14_code 0 = .ok (.aload_n 0, 1) := by decide +kernel
theorem d_Ps_readPart_1 : decode prog_7_method_14_code 1 = .ok (.getfield 26, 3) := by decide +kernel
theorem d_Ps_readPart_4 : decode prog_7_method_14_code 4 = .ok (.bipush 91, 2) := by decide +kernel
theorem d_Ps_readPart_6 : decode prog_7_method_14_code 6 = .ok (.invokevirtual 49, 3) := by decide +kernel
theorem d_Ps_readPart_9 : decode prog_7_method_14_code 9 = .ok (.ifCond .eq 9, 3) := by decide +kernel
theorem d_Ps_readPart_12 : decode prog_7_method_14_code 12 = .ok (.aload_n 0, 1) := by decide +kernel
theorem d_Ps_readPart_13 : decode prog_7_method_14_code 13 = .ok (.iload_n 1, 1) := by decide +kernel
theorem d_Ps_readPart_14 : decode prog_7_method_14_code 14 = .ok (.invokevirtual 152, 3) := by decide +kernel
theorem d_Ps_readPart_17 : decode prog_7_method_14_code 17 = .ok (.ireturn, 1) := by decide +kernel
theorem d_Ps_readPart_18 : decode prog_7_method_14_code 18 = .ok (.aload_n 0, 1) := by decide +kernel
theorem d_Ps_readPart_19 : decode prog_7_method_14_code 19 = .ok (.getfield 22, 3) := by decide +kernel
theorem d_Ps_readPart_22 : decode prog_7_method_14_code 22 = .ok (.bipush 50, 2) := by decide +kernel
theorem d_Ps_readPart_24 : decode prog_7_method_14_code 24 = .ok (.if_icmp .lt 5, 3) := by decide +kernel
theorem d_Ps_readPart_27 : decode prog_7_method_14_code 27 = .ok (.iconst 0, 1) := by decide +kernel
theorem d_Ps_readPart_28 : decode prog_7_method_14_code 28 = .ok (.ireturn, 1) := by decide +kernel
theorem d_Ps_readPart_29 : decode prog_7_method_14_code 29 = .ok (.aload_n 0, 1) := by decide +kernel
theorem d_Ps_readPart_30 : decode prog_7_method_14_code 30 = .ok (.dup, 1) := by decide +kernel
theorem d_Ps_readPart_31 : decode prog_7_method_14_code 31 = .ok (.getfield 22, 3) := by decide +kernel
theorem d_Ps_readPart_34 : decode prog_7_method_14_code 34 = .ok (.iconst 1, 1) := by decide +kernel
theorem d_Ps_readPart_35 : decode prog_7_method_14_code 35 = .ok (.iadd, 1) := by decide +kernel
theorem d_Ps_readPart_36 : decode prog_7_method_14_code 36 = .ok (.putfield 22, 3) := by decide +kernel
theorem d_Ps_readPart_39 : decode prog_7_method_14_code 39 = .ok (.aload_n 0, 1) := by decide +kernel
theorem d_Ps_readPart_40 : decode prog_7_method_14_code 40 = .ok (.getfield 26, 3) := by decide +kernel
theorem d_Ps_readPart_43 : decode prog_7_method_14_code 43 = .ok (.iconst 0, 1) := by decide +kernel
theorem d_Ps_readPart_44 : decode prog_7_method_14_code 44 = .ok (.sipush 1000, 3) := by decide +kernel
theorem d_Ps_readPart_47 : decode prog_7_method_14_code 47 = .ok (.invokevirtual 102, 3) := by decide +kernel
theorem d_Ps_readPart_50 : decode prog_7_method_14_code 50 = .ok (.ifCond .eq 28, 3) := by decide +kernel
theorem d_Ps_readPart_53 : decode prog_7_method_14_code 53 = .ok (.aload_n 0, 1) := by decide +kernel
theorem d_Ps_readPart_54 : decode prog_7_method_14_code 54 = .ok (.getfield 12, 3) := by decide +kernel
theorem d_Ps_readPart_57 : decode prog_7_method_14_code 57 = .ok (.iconst 0, 1) := by decide +kernel
theorem d_Ps_readPart_58 : decode prog_7_method_14_code 58 = .ok (.aload_n 0, 1) := by decide +kernel
theorem d_Ps_readPart_59 : decode prog_7_method_14_code 59 = .ok (.getfield 26, 3) := by decide +kernel
theorem d_Ps_readPart_62 : decode prog_7_method_14_code 62 = .ok (.invokevirtual 106, 3) := by decide +kernel
theorem d_Ps_readPart_65 : decode prog_7_method_14_code 65 = .ok (.invokevirtual 117, 3) := by decide +kernel
theorem d_Ps_readPart_68 : decode prog_7_method_14_code 68 = .ok (.pop, 1) := by decide +kernel
theorem d_Ps_readPart_69 : decode prog_7_method_14_code 69 = .ok (.aload_n 0, 1) := by decide +kernel
theorem d_Ps_readPart_70 : decode prog_7_method_14_code 70 = .ok (.getfield 26, 3) := by decide +kernel
theorem d_Ps_readPart_73 : decode prog_7_method_14_code 73 = .ok (.invokevirtual 53, 3) := by decide +kernel
theorem d_Ps_readPart_76 : decode prog_7_method_14_code 76 = .ok (.iconst 1, 1) := by decide +kernel
theorem d_Ps_readPart_77 : decode prog_7_method_14_code 77 = .ok (.ireturn, 1) := by decide +kernel
theorem d_Ps_readPart_78 : decode prog_7_method_14_code 78 = .ok (.aload_n 0, 1) := by decide +kernel
theorem d_Ps_readPart_79 : decode prog_7_method_14_code 79 = .ok (.getfield 26, 3) := by decide +kernel
theorem d_Ps_readPart_82 : decode prog_7_method_14_code 82 = .ok (.aload_n 0, 1) := by decide +kernel
theorem d_Ps_readPart_83 : decode prog_7_method_14_code 83 = .ok (.getfield 18, 3) := by decide +kernel
theorem d_Ps_readPart_86 : decode prog_7_method_14_code 86 = .ok (.ifCond .eq 8, 3) := by decide +kernel
theorem d_Ps_readPart_89 : decode prog_7_method_14_code 89 = .ok (.ldc 155, 2) := by decide +kernel
theorem d_Ps_readPart_91 : decode prog_7_method_14_code 91 = .ok (.goto 5, 3) := by decide +kernel
theorem d_Ps_readPart_94 : decode prog_7_method_14_code 94 = .ok (.ldc 157, 2) := by decide +kernel
theorem d_Ps_readPart_96 : decode prog_7_method_14_code 96 = .ok (.invokevirtual 60, 3) := by decide +kernel
theorem d_Ps_readPart_99 : decode prog_7_method_14_code 99 = .ok (.istore_n 2, 1) := by decide +kernel
theorem d_Ps_readPart_100 : decode prog_7_method_14_code 100 = .ok (.iload_n 2, 1) := by decide +kernel
theorem d_Ps_readPart_101 : decode prog_7_method_14_code 101 = .ok (.iconst (-1), 1) := by decide +kernel
theorem d_Ps_readPart_102 : decode prog_7_method_14_code 102 = .ok (.if_icmp .ne 5, 3) := by decide +kernel
theorem d_Ps_readPart_105 : decode prog_7_method_14_code 105 = .ok (.iconst 0, 1) := by decide +kernel
theorem d_Ps_readPart_106 : decode prog_7_method_14_code 106 = .ok (.ireturn, 1) := by decide +kernel
theorem d_Ps_readPart_107 : decode prog_7_method_14_code 107 = .ok (.aload_n 0, 1) := by decide +kernel
theorem d_Ps_readPart_108 : decode prog_7_method_14_code 108 = .ok (.getfield 26, 3) := by decide +kernel
theorem d_Ps_readPart_111 : decode prog_7_method_14_code 111 = .ok (.invokevirtual 53, 3) := by decide +kernel
theorem d_Ps_readPart_114 : decode prog_7_method_14_code 114 = .ok (.aload_n 0, 1) := by decide +kernel
theorem d_Ps_readPart_115 : decode prog_7_method_14_code 115 = .ok (.getfield 18, 3) := by decide +kernel
theorem d_Ps_readPart_118 : decode prog_7_method_14_code 118 = .ok (.ifCond .eq 16, 3) := by decide +kernel
theorem d_Ps_readPart_121 : decode prog_7_method_14_code 121 = .ok (.iload_n 2, 1) := by decide +kernel
theorem d_Ps_readPart_122 : decode prog_7_method_14_code 122 = .ok (.iconst 4, 1) := by decide +kernel
theorem d_Ps_readPart_123 : decode prog_7_method_14_code 123 = .ok (.if_icmp .lt 11, 3) := by decide +kernel
theorem d_Ps_readPart_126 : decode prog_7_method_14_code 126 = .ok (.aload_n 0, 1) := by decide +kernel
theorem d_Ps_readPart_127 : decode prog_7_method_14_code 127 = .ok (.iload_n 2, 1) := by decide +kernel
theorem d_Ps_readPart_128 : decode prog_7_method_14_code 128 = .ok (.iconst 4, 1) := by decide +kernel
theorem d_Ps_readPart_129 : decode prog_7_method_14_code 129 = .ok (.isub, 1) := by decide +kernel
theorem d_Ps_readPart_130 : decode prog_7_method_14_code 130 = .ok (.invokevirtual 159, 3) := by decide +kernel
theorem d_Ps_readPart_133 : decode prog_7_method_14_code 133 = .ok (.ireturn, 1) := by decide +kernel
theorem d_Ps_readPart_134 : decode prog_7_method_14_code 134 = .ok (.aload_n 0, 1) := by decide +kernel
theorem d_Ps_readPart_135 : decode prog_7_method_14_code 135 = .ok (.getfield 12, 3) := by decide +kernel
theorem d_Ps_readPart_138 : decode prog_7_method_14_code 138 = .ok (.iload_n 2, 1) := by decide +kernel
theorem d_Ps_readPart_139 : decode prog_7_method_14_code 139 = .ok (.invokevirtual 162, 3) := by decide +kernel
theorem d_Ps_readPart_142 : decode prog_7_method_14_code 142 = .ok (.iconst 1, 1) := by decide +kernel
theorem d_Ps_readPart_143 : decode prog_7_method_14_code 143 = .ok (.ireturn, 1) := by decide +kernel
def F_Ps_readPart_b134 (n : Nat) (E : zE) (S : zS) (rc : Nat × Int32 × zH → Option (Bool × zH)) (a0 : Nat) (x2 : Int32) (M : zH) : Option (Bool × zH) :=
  (zgR S a0 5 0).bind fun b_1 =>
  (zck S b_1 9).bind fun u_2 =>
  (F_Te_addWord n E S b_1 x2 M).bind fun q_3 =>
  some (true, q_3)
def F_Ps_readPart_b96 (n : Nat) (E : zE) (S : zS) (rc : Nat × Int32 × zH → Option (Bool × zH)) (a0 : Nat) (l0 : Nat) (u1 : Nat) (M : zH) : Option (Bool × zH) :=
  (zck S u1 8).bind fun u_4 =>
  (F_Ta_indexIn n E S u1 l0 M).bind fun q_5 =>
  if q_5.1 = (-1) then
    some (false, q_5.2)
  else
    (zgR S a0 5 1).bind fun b_7 =>
    (zck S b_7 8).bind fun u_8 =>
    (F_Ta_advance n E S b_7 q_5.2).bind fun q_9 =>
    (zgI S q_9 a0 5 2).bind fun v_10 =>
    if v_10 = 0 then
      F_Ps_readPart_b134 n E S rc a0 q_5.1 q_9
    else
      if q_5.1 < 4 then
        F_Ps_readPart_b134 n E S rc a0 q_5.1 q_9
      else
        (F_Ps_readNumberOf n E S a0 (q_5.1 - 4) q_9).bind fun q_13 =>
        some (q_13.1, q_13.2)
def F_Ps_readPart (n : Nat) (E : zE) (S : zS) (rc : Nat × Int32 × zH → Option (Bool × zH)) (a0 : Nat) (x1 : Int32) (M : zH) : Option (Bool × zH) :=
  (zgR S a0 5 1).bind fun b_14 =>
  (zck S b_14 8).bind fun u_15 =>
  (F_Ta_atSign n E S b_14 91 M).bind fun q_16 =>
  if q_16.1 = true then
    (F_Ps_readSumInBrackets n E S rc a0 x1 q_16.2).bind fun q_18 =>
    some (q_18.1, q_18.2)
  else
    (zgI S q_16.2 a0 5 3).bind fun v_19 =>
    if v_19 < 50 then
      (zgI S q_16.2 a0 5 3).bind fun v_21 =>
      (zpI S q_16.2 a0 5 3 (v_21 + 1)).bind fun m_22 =>
      (F_Ta_atNumber n E S b_14 0 1000 m_22).bind fun q_23 =>
      if q_23.1 = true then
        (zgR S a0 5 0).bind fun b_25 =>
        (F_Ta_number n E S b_14 q_23.2).bind fun q_26 =>
        (zck S b_25 9).bind fun u_27 =>
        (F_Te_add n E S b_25 0 q_26.1 q_26.2).bind fun q_28 =>
        (F_Ta_advance n E S b_14 q_28.2).bind fun q_29 =>
        some (true, q_29)
      else
        (zgI S q_23.2 a0 5 2).bind fun v_30 =>
        if v_30 = 0 then
          F_Ps_readPart_b96 n E S rc a0 5 b_14 q_23.2
        else
          F_Ps_readPart_b96 n E S rc a0 4 b_14 q_23.2
    else
      some (false, q_16.2)
theorem K_Ps_readPart_b134 (d : Nat) (n : Nat) (E : zE) (S : zS) (rc : Nat × Int32 × zH → Option (Bool × zH)) (a0 : Nat) (x2 : Int32) (M : zH) (r : Bool) (M' : zH) (hrc : ∀ (p0 : Nat) (p1 : Int32) (M : zH) (r : Bool) (M' : zH), rc (p0, p1, M) = some (r, M') → zC E (Y_Ps_readSum d) [.ref p0, .int p1] S M (some (.int (bI r)), S, M'))  (h : F_Ps_readPart_b134 n E S rc a0 x2 M = some (r, M')) : zG E (Y_Ps_readPart (d + 1)) (some (.int (bI r)), S, M') 134 [(0, .ref a0), (2, .int x2)] [] S M 0 0 := by
  unfold F_Ps_readPart_b134 at h
  refine zi_aload_n 0 d_Ps_readPart_134 rfl ?_
  obtain ⟨b_1, eb_1, h⟩ := zbind h
  refine zo_getR 138 zkd_5 0 d_Ps_readPart_135 eb_1 rfl tw_215 rfl ?_
  refine zi_iload_n 1 d_Ps_readPart_138 rfl ?_
  obtain ⟨u_2, eu_2, h⟩ := zbind h
  obtain ⟨q_3, eq_3, h⟩ := zbind h
  refine zo_virt (k' := 0) (n' := 0) 142 [.int x2] [] [] zkd_9 (zck_s eu_2) (C_Te_addWord n E S b_1 x2 M q_3 eq_3) d_Ps_readPart_139 tw_713 tw_710 tw_711 tw_712 tw_7 dd_Te_addWord (by refine ⟨?_, ?_, ?_, ?_⟩ <;> simp only [yH, yL, yC, yS, Y_Ps_readPart, Y_Te_addWord] <;> omega) (Nat.le_of_ble_eq_true rfl) rfl rfl rfl rfl ?_
  refine zi_iconst 1 d_Ps_readPart_142 rfl ?_
  cases h
  exact zo_retB d_Ps_readPart_143 (Nat.le_of_ble_eq_true rfl) (Nat.le_of_ble_eq_true rfl) rfl
theorem K_Ps_readPart_b96 (d : Nat) (n : Nat) (E : zE) (S : zS) (rc : Nat × Int32 × zH → Option (Bool × zH)) (a0 : Nat) (l0 : Nat) (u1 : Nat) (M : zH) (r : Bool) (M' : zH) (hrc : ∀ (p0 : Nat) (p1 : Int32) (M : zH) (r : Bool) (M' : zH), rc (p0, p1, M) = some (r, M') → zC E (Y_Ps_readSum d) [.ref p0, .int p1] S M (some (.int (bI r)), S, M'))  (h : F_Ps_readPart_b96 n E S rc a0 l0 u1 M = some (r, M')) : zG E (Y_Ps_readPart (d + 1)) (some (.int (bI r)), S, M') 96 [(0, .ref a0)] [.ref (eK E l0), .ref u1] S M 0 0 := by
  unfold F_Ps_readPart_b96 at h
  obtain ⟨u_4, eu_4, h⟩ := zbind h
  obtain ⟨q_5, eq_5, h⟩ := zbind h
  refine zo_virt (k' := 0) (n' := 0) 99 [.ref (eK E l0)] [] [.int q_5.1] zkd_8 (zck_s eu_4) (C_Ta_indexIn n E S u1 l0 M q_5.1 q_5.2 eq_5) d_Ps_readPart_96 tw_593 tw_590 tw_591 tw_592 tw_5 dd_Ta_indexIn (by refine ⟨?_, ?_, ?_, ?_⟩ <;> simp only [yH, yL, yC, yS, Y_Ps_readPart, Y_Ta_indexIn] <;> omega) (Nat.le_of_ble_eq_true rfl) rfl rfl rfl rfl ?_
  refine zi_istore_n [(2, .int q_5.1), (0, .ref a0)] d_Ps_readPart_99 (Nat.le_of_ble_eq_true rfl) rfl ?_
  refine zi_iload_n 0 d_Ps_readPart_100 rfl ?_
  refine zi_iconst (-1) d_Ps_readPart_101 rfl ?_
  refine zi_icmp_ne (tgt := 107) d_Ps_readPart_102 rfl (fun c_6 => ?_) (fun c_6 => ?_)
  · rw [if_neg c_6] at h
    refine zi_aload_n 1 d_Ps_readPart_107 rfl ?_
    obtain ⟨b_7, eb_7, h⟩ := zbind h
    refine zo_getR 111 zkd_5 1 d_Ps_readPart_108 eb_7 rfl tw_217 rfl ?_
    obtain ⟨u_8, eu_8, h⟩ := zbind h
    obtain ⟨q_9, eq_9, h⟩ := zbind h
    refine zo_virt (k' := 0) (n' := 0) 114 [] [] [] zkd_8 (zck_s eu_8) (C_Ta_advance n E S b_7 q_5.2 q_9 eq_9) d_Ps_readPart_111 tw_575 tw_655 tw_573 tw_574 tw_5 dd_Ta_advance (by refine ⟨?_, ?_, ?_, ?_⟩ <;> simp only [yH, yL, yC, yS, Y_Ps_readPart, Y_Ta_advance] <;> omega) (Nat.le_of_ble_eq_true rfl) rfl rfl rfl rfl ?_
    refine zi_aload_n 1 d_Ps_readPart_114 rfl ?_
    obtain ⟨v_10, ev_10, h⟩ := zbind h
    refine zo_getI 118 zkd_5 2 d_Ps_readPart_115 ev_10 rfl tw_218 rfl ?_
    refine zi_if_eq (tgt := 134) d_Ps_readPart_118 rfl (fun c_11 => ?_) (fun c_11 => ?_)
    · rw [if_pos c_11] at h
      refine zi_lo [(0, .ref a0), (2, .int q_5.1)] [1, 0] rfl ?_
      exact K_Ps_readPart_b134 d n E S rc a0 q_5.1 q_9 r M' hrc  h
    · rw [if_neg c_11] at h
      refine zi_iload_n 0 d_Ps_readPart_121 rfl ?_
      refine zi_iconst 4 d_Ps_readPart_122 rfl ?_
      refine zi_icmp_lt (tgt := 134) d_Ps_readPart_123 rfl (fun c_12 => ?_) (fun c_12 => ?_)
      · rw [if_pos c_12] at h
        refine zi_lo [(0, .ref a0), (2, .int q_5.1)] [1, 0] rfl ?_
        exact K_Ps_readPart_b134 d n E S rc a0 q_5.1 q_9 r M' hrc  h
      · rw [if_neg c_12] at h
        refine zi_aload_n 1 d_Ps_readPart_126 rfl ?_
        refine zi_iload_n 0 d_Ps_readPart_127 rfl ?_
        refine zi_iconst 4 d_Ps_readPart_128 rfl ?_
        refine zi_isub d_Ps_readPart_129 ?_
        obtain ⟨q_13, eq_13, h⟩ := zbind h
        refine zo_virt (k' := 0) (n' := 0) 133 [.int (q_5.1 - 4)] [] [.int (bI q_13.1)] zkd_5 (zgR_s eb_7).1 (C_Ps_readNumberOf n E S a0 (q_5.1 - 4) q_9 q_13.1 q_13.2 eq_13) d_Ps_readPart_130 tw_704 tw_701 tw_703 ts_14 tw_6 dd_Ps_readNumberOf (by refine ⟨?_, ?_, ?_, ?_⟩ <;> simp only [yH, yL, yC, yS, Y_Ps_readPart, Y_Ps_readNumberOf] <;> omega) (Nat.le_of_ble_eq_true rfl) rfl rfl rfl rfl ?_
        cases h
        exact zo_retB d_Ps_readPart_133 (Nat.le_of_ble_eq_true rfl) (Nat.le_of_ble_eq_true rfl) rfl
  · rw [if_pos c_6] at h
    refine zi_iconst 0 d_Ps_readPart_105 rfl ?_
    cases h
    exact zo_retB d_Ps_readPart_106 (Nat.le_of_ble_eq_true rfl) (Nat.le_of_ble_eq_true rfl) rfl
theorem K_Ps_readPart (d : Nat) (n : Nat) (E : zE) (S : zS) (rc : Nat × Int32 × zH → Option (Bool × zH)) (a0 : Nat) (x1 : Int32) (M : zH) (r : Bool) (M' : zH) (hrc : ∀ (p0 : Nat) (p1 : Int32) (M : zH) (r : Bool) (M' : zH), rc (p0, p1, M) = some (r, M') → zC E (Y_Ps_readSum d) [.ref p0, .int p1] S M (some (.int (bI r)), S, M'))  (h : F_Ps_readPart n E S rc a0 x1 M = some (r, M')) : zG E (Y_Ps_readPart (d + 1)) (some (.int (bI r)), S, M') 0 [(0, .ref a0), (1, .int x1)] [] S M 0 0 := by
  unfold F_Ps_readPart at h
  refine zi_aload_n 0 d_Ps_readPart_0 rfl ?_
  obtain ⟨b_14, eb_14, h⟩ := zbind h
  refine zo_getR 4 zkd_5 1 d_Ps_readPart_1 eb_14 rfl tw_217 rfl ?_
  refine zi_bipush 91 d_Ps_readPart_4 rfl ?_
  obtain ⟨u_15, eu_15, h⟩ := zbind h
  obtain ⟨q_16, eq_16, h⟩ := zbind h
  refine zo_virt (k' := 0) (n' := 0) 9 [.int 91] [] [.int (bI q_16.1)] zkd_8 (zck_s eu_15) (C_Ta_atSign n E S b_14 91 M q_16.1 q_16.2 eq_16) d_Ps_readPart_6 tw_681 tw_678 tw_679 tw_680 tw_5 dd_Ta_atSign (by refine ⟨?_, ?_, ?_, ?_⟩ <;> simp only [yH, yL, yC, yS, Y_Ps_readPart, Y_Ta_atSign] <;> omega) (Nat.le_of_ble_eq_true rfl) rfl rfl rfl rfl ?_
  refine zo_ifeqB d_Ps_readPart_9 rfl 12 rfl (fun c_17 => ?_) (fun c_17 => ?_)
  · rw [if_neg c_17] at h
    refine zi_aload_n 0 d_Ps_readPart_18 rfl ?_
    obtain ⟨v_19, ev_19, h⟩ := zbind h
    refine zo_getI 22 zkd_5 3 d_Ps_readPart_19 ev_19 rfl tw_219 rfl ?_
    refine zi_bipush 50 d_Ps_readPart_22 rfl ?_
    refine zi_icmp_lt (tgt := 29) d_Ps_readPart_24 rfl (fun c_20 => ?_) (fun c_20 => ?_)
    · rw [if_pos c_20] at h
      refine zi_aload_n 0 d_Ps_readPart_29 rfl ?_
      refine zi_dup d_Ps_readPart_30 rfl ?_
      obtain ⟨v_21, ev_21, h⟩ := zbind h
      refine zo_getI 34 zkd_5 3 d_Ps_readPart_31 ev_21 rfl tw_219 rfl ?_
      refine zi_iconst 1 d_Ps_readPart_34 rfl ?_
      refine zi_iadd d_Ps_readPart_35 ?_
      obtain ⟨m_22, em_22, h⟩ := zbind h
      refine zo_putI 39 zkd_5 3 d_Ps_readPart_36 em_22 rfl rfl rfl tw_219 rfl ?_
      refine zi_aload_n 0 d_Ps_readPart_39 rfl ?_
      refine zo_getR 43 zkd_5 1 d_Ps_readPart_40 eb_14 rfl tw_217 rfl ?_
      refine zi_iconst 0 d_Ps_readPart_43 rfl ?_
      refine zi_sipush 1000 d_Ps_readPart_44 rfl ?_
      obtain ⟨q_23, eq_23, h⟩ := zbind h
      refine zo_virt (k' := 0) (n' := 0) 50 [.int 0, .int 1000] [] [.int (bI q_23.1)] zkd_8 (zck_s eu_15) (C_Ta_atNumber n E S b_14 0 1000 m_22 q_23.1 q_23.2 eq_23) d_Ps_readPart_47 tw_689 tw_686 tw_687 tw_688 tw_5 dd_Ta_atNumber (by refine ⟨?_, ?_, ?_, ?_⟩ <;> simp only [yH, yL, yC, yS, Y_Ps_readPart, Y_Ta_atNumber] <;> omega) (Nat.le_of_ble_eq_true rfl) rfl rfl rfl rfl ?_
      refine zo_ifeqB d_Ps_readPart_50 rfl 53 rfl (fun c_24 => ?_) (fun c_24 => ?_)
      · rw [if_neg c_24] at h
        refine zi_aload_n 0 d_Ps_readPart_78 rfl ?_
        refine zo_getR 82 zkd_5 1 d_Ps_readPart_79 eb_14 rfl tw_217 rfl ?_
        refine zi_aload_n 0 d_Ps_readPart_82 rfl ?_
        obtain ⟨v_30, ev_30, h⟩ := zbind h
        refine zo_getI 86 zkd_5 2 d_Ps_readPart_83 ev_30 rfl tw_218 rfl ?_
        refine zi_if_eq (tgt := 94) d_Ps_readPart_86 rfl (fun c_31 => ?_) (fun c_31 => ?_)
        · rw [if_pos c_31] at h
          refine zi_ldcS d_Ps_readPart_94 (zlit_5 E) ?_
          refine zi_lo [(0, .ref a0)] [0] rfl ?_
          exact K_Ps_readPart_b96 d n E S rc a0 5 b_14 q_23.2 r M' hrc  h
        · rw [if_neg c_31] at h
          refine zi_ldcS d_Ps_readPart_89 (zlit_4 E) ?_
          refine zi_goto (tgt := 96) d_Ps_readPart_91 rfl ?_
          refine zi_lo [(0, .ref a0)] [0] rfl ?_
          exact K_Ps_readPart_b96 d n E S rc a0 4 b_14 q_23.2 r M' hrc  h
      · rw [if_pos c_24] at h
        refine zi_aload_n 0 d_Ps_readPart_53 rfl ?_
        obtain ⟨b_25, eb_25, h⟩ := zbind h
        refine zo_getR 57 zkd_5 0 d_Ps_readPart_54 eb_25 rfl tw_215 rfl ?_
        refine zi_iconst 0 d_Ps_readPart_57 rfl ?_
        refine zi_aload_n 0 d_Ps_readPart_58 rfl ?_
        refine zo_getR 62 zkd_5 1 d_Ps_readPart_59 eb_14 rfl tw_217 rfl ?_
        obtain ⟨q_26, eq_26, h⟩ := zbind h
        refine zo_virt (k' := 0) (n' := 0) 65 [] [.int 0, .ref b_25] [.int q_26.1, .int 0, .ref b_25] zkd_8 (zck_s eu_15) (C_Ta_number n E S b_14 q_23.2 q_26.1 q_26.2 eq_26) d_Ps_readPart_62 tw_694 tw_691 tw_692 tw_693 tw_5 dd_Ta_number (by refine ⟨?_, ?_, ?_, ?_⟩ <;> simp only [yH, yL, yC, yS, Y_Ps_readPart, Y_Ta_number] <;> omega) (Nat.le_of_ble_eq_true rfl) rfl rfl rfl rfl ?_
        obtain ⟨u_27, eu_27, h⟩ := zbind h
        obtain ⟨q_28, eq_28, h⟩ := zbind h
        refine zo_virt (k' := 0) (n' := 0) 68 [.int 0, .int q_26.1] [] [.int q_28.1] zkd_9 (zck_s eu_27) (C_Te_add n E S b_25 0 q_26.1 q_26.2 q_28.1 q_28.2 eq_28) d_Ps_readPart_65 tw_698 tw_695 tw_696 tw_697 tw_7 dd_Te_add (by refine ⟨?_, ?_, ?_, ?_⟩ <;> simp only [yH, yL, yC, yS, Y_Ps_readPart, Y_Te_add] <;> omega) (Nat.le_of_ble_eq_true rfl) rfl rfl rfl rfl ?_
        refine zi_pop d_Ps_readPart_68 rfl ?_
        refine zi_aload_n 0 d_Ps_readPart_69 rfl ?_
        refine zo_getR 73 zkd_5 1 d_Ps_readPart_70 eb_14 rfl tw_217 rfl ?_
        obtain ⟨q_29, eq_29, h⟩ := zbind h
        refine zo_virt (k' := 0) (n' := 0) 76 [] [] [] zkd_8 (zck_s eu_15) (C_Ta_advance n E S b_14 q_28.2 q_29 eq_29) d_Ps_readPart_73 tw_575 tw_655 tw_573 tw_574 tw_5 dd_Ta_advance (by refine ⟨?_, ?_, ?_, ?_⟩ <;> simp only [yH, yL, yC, yS, Y_Ps_readPart, Y_Ta_advance] <;> omega) (Nat.le_of_ble_eq_true rfl) rfl rfl rfl rfl ?_
        refine zi_iconst 1 d_Ps_readPart_76 rfl ?_
        cases h
        exact zo_retB d_Ps_readPart_77 (Nat.le_of_ble_eq_true rfl) (Nat.le_of_ble_eq_true rfl) rfl
    · rw [if_neg c_20] at h
      refine zi_iconst 0 d_Ps_readPart_27 rfl ?_
      cases h
      exact zo_retB d_Ps_readPart_28 (Nat.le_of_ble_eq_true rfl) (Nat.le_of_ble_eq_true rfl) rfl
  · rw [if_pos c_17] at h
    refine zi_aload_n 0 d_Ps_readPart_12 rfl ?_
    refine zi_iload_n 1 d_Ps_readPart_13 rfl ?_
    obtain ⟨q_18, eq_18, h⟩ := zbind h
    refine zo_virt (k' := 0) (n' := 0) 17 [.int x1] [] [.int (bI q_18.1)] zkd_5 (zgR_s eb_14).1 (C_Ps_readSumInBrackets d n E S rc a0 x1 q_16.2 q_18.1 q_18.2 hrc eq_18) d_Ps_readPart_14 tw_685 tw_682 tw_684 ts_13 tw_6 dd_Ps_readSumInBrackets (by refine ⟨?_, ?_, ?_, ?_⟩ <;> simp only [yH, yL, yC, yS, Y_Ps_readPart, Y_Ps_readSumInBrackets] <;> omega) (Nat.le_of_ble_eq_true rfl) rfl rfl rfl rfl ?_
    cases h
    exact zo_retB d_Ps_readPart_17 (Nat.le_of_ble_eq_true rfl) (Nat.le_of_ble_eq_true rfl) rfl
theorem C_Ps_readPart (d : Nat) (n : Nat) (E : zE) (S : zS) (rc : Nat × Int32 × zH → Option (Bool × zH)) (a0 : Nat) (x1 : Int32) (M : zH) (r : Bool) (M' : zH) (hrc : ∀ (p0 : Nat) (p1 : Int32) (M : zH) (r : Bool) (M' : zH), rc (p0, p1, M) = some (r, M') → zC E (Y_Ps_readSum d) [.ref p0, .int p1] S M (some (.int (bI r)), S, M')) (h : F_Ps_readPart n E S rc a0 x1 M = some (r, M')) : zC E (Y_Ps_readPart (d + 1)) [.ref a0, .int x1] S M (some (.int (bI r)), S, M') :=
  zC.of (Or.inl (show plainName "NightColander$Parser" = true by decide)) (Nat.le_of_ble_eq_true rfl) (bI_nar r) (K_Ps_readPart d n E S rc a0 x1 M r M' hrc h)
theorem d_Jl_canEncode_0 : decode (yB Y_Jl_canEncode) 0 = .ok (.iload_n 0, 1) := by decide +kernel
theorem d_Jl_canEncode_1 : decode (yB Y_Jl_canEncode) 1 = .ok (.ifCond .lt 14, 3) := by decide +kernel
theorem d_Jl_canEncode_4 : decode (yB Y_Jl_canEncode) 4 = .ok (.iload_n 0, 1) := by decide +kernel
theorem d_Jl_canEncode_5 : decode (yB Y_Jl_canEncode) 5 = .ok (.sipush 255, 3) := by decide +kernel
theorem d_Jl_canEncode_8 : decode (yB Y_Jl_canEncode) 8 = .ok (.if_icmp .gt 7, 3) := by decide +kernel
theorem d_Jl_canEncode_11 : decode (yB Y_Jl_canEncode) 11 = .ok (.iconst 1, 1) := by decide +kernel
theorem d_Jl_canEncode_12 : decode (yB Y_Jl_canEncode) 12 = .ok (.goto 4, 3) := by decide +kernel
theorem d_Jl_canEncode_15 : decode (yB Y_Jl_canEncode) 15 = .ok (.iconst 0, 1) := by decide +kernel
theorem d_Jl_canEncode_16 : decode (yB Y_Jl_canEncode) 16 = .ok (.ireturn, 1) := by decide +kernel
def F_Jl_canEncode (n : Nat) (E : zE) (S : zS) (x0 : Int32) (M : zH) : Option (Bool × zH) :=
  if x0 < 0 then
    some (false, M)
  else
    if 255 < x0 then
      some (false, M)
    else
      some (true, M)
theorem K_Jl_canEncode (n : Nat) (E : zE) (S : zS) (x0 : Int32) (M : zH) (r : Bool) (M' : zH)  (h : F_Jl_canEncode n E S x0 M = some (r, M')) : zG E Y_Jl_canEncode (some (.int (bI r)), S, M') 0 [(0, .int x0)] [] S M 0 0 := by
  unfold F_Jl_canEncode at h
  refine zi_iload_n 0 d_Jl_canEncode_0 rfl ?_
  refine zi_if_lt (tgt := 15) d_Jl_canEncode_1 rfl (fun c_1 => ?_) (fun c_1 => ?_)
  · rw [if_pos c_1] at h
    refine zi_iconst 0 d_Jl_canEncode_15 rfl ?_
    cases h
    exact zo_retB d_Jl_canEncode_16 (Nat.le_of_ble_eq_true rfl) (Nat.le_of_ble_eq_true rfl) rfl
  · rw [if_neg c_1] at h
    refine zi_iload_n 0 d_Jl_canEncode_4 rfl ?_
    refine zi_sipush 255 d_Jl_canEncode_5 rfl ?_
    refine zi_icmp_gt (tgt := 15) d_Jl_canEncode_8 rfl (fun c_2 => ?_) (fun c_2 => ?_)
    · rw [if_pos c_2] at h
      refine zi_iconst 0 d_Jl_canEncode_15 rfl ?_
      cases h
      exact zo_retB d_Jl_canEncode_16 (Nat.le_of_ble_eq_true rfl) (Nat.le_of_ble_eq_true rfl) rfl
    · rw [if_neg c_2] at h
      refine zi_iconst 1 d_Jl_canEncode_11 rfl ?_
      refine zi_goto (tgt := 16) d_Jl_canEncode_12 rfl ?_
      cases h
      exact zo_retB d_Jl_canEncode_16 (Nat.le_of_ble_eq_true rfl) (Nat.le_of_ble_eq_true rfl) rfl
theorem C_Jl_canEncode (n : Nat) (E : zE) (S : zS) (x0 : Int32) (M : zH) (r : Bool) (M' : zH) (h : F_Jl_canEncode n E S x0 M = some (r, M')) : zC E Y_Jl_canEncode [.int x0] S M (some (.int (bI r)), S, M') :=
  zC.of (Or.inl (show plainName "java/lang/StringLatin1" = true by decide)) (Nat.le_of_ble_eq_true rfl) (bI_nar r) (K_Jl_canEncode n E S x0 M r M' h)
theorem d_Jl_indexOfChar_0 : decode (yB Y_Jl_indexOfChar) 0 = .ok (.iload_n 1, 1) := by decide +kernel
theorem d_Jl_indexOfChar_1 : decode (yB Y_Jl_indexOfChar) 1 = .ok (.i2b, 1) := by decide +kernel
theorem d_Jl_indexOfChar_2 : decode (yB Y_Jl_indexOfChar) 2 = .ok (.istore 4, 2) := by decide +kernel
theorem d_Jl_indexOfChar_4 : decode (yB Y_Jl_indexOfChar) 4 = .ok (.iload_n 2, 1) := by decide +kernel
theorem d_Jl_indexOfChar_5 : decode (yB Y_Jl_indexOfChar) 5 = .ok (.istore 5, 2) := by decide +kernel
theorem d_Jl_indexOfChar_7 : decode (yB Y_Jl_indexOfChar) 7 = .ok (.iload 5, 2) := by decide +kernel
theorem d_Jl_indexOfChar_9 : decode (yB Y_Jl_indexOfChar) 9 = .ok (.iload_n 3, 1) := by decide +kernel
theorem d_Jl_indexOfChar_10 : decode (yB Y_Jl_indexOfChar) 10 = .ok (.if_icmp .ge 21, 3) := by decide +kernel
theorem d_Jl_indexOfChar_13 : decode (yB Y_Jl_indexOfChar) 13 = .ok (.aload_n 0, 1) := by decide +kernel
theorem d_Jl_indexOfChar_14 : decode (yB Y_Jl_indexOfChar) 14 = .ok (.iload 5, 2) := by decide +kernel
theorem d_Jl_indexOfChar_16 : decode (yB Y_Jl_indexOfChar) 16 = .ok (.baload, 1) := by decide +kernel
theorem d_Jl_indexOfChar_17 : decode (yB Y_Jl_indexOfChar) 17 = .ok (.iload 4, 2) := by decide +kernel
theorem d_Jl_indexOfChar_19 : decode (yB Y_Jl_indexOfChar) 19 = .ok (.if_icmp .ne 6, 3) := by decide +kernel
theorem d_Jl_indexOfChar_22 : decode (yB Y_Jl_indexOfChar) 22 = .ok (.iload 5, 2) := by decide +kernel
theorem d_Jl_indexOfChar_24 : decode (yB Y_Jl_indexOfChar) 24 = .ok (.ireturn, 1) := by decide +kernel
theorem d_Jl_indexOfChar_25 : decode (yB Y_Jl_indexOfChar) 25 = .ok (.iinc 5 1, 3) := by decide +kernel
theorem d_Jl_indexOfChar_28 : decode (yB Y_Jl_indexOfChar) 28 = .ok (.goto (-21), 3) := by decide +kernel
theorem d_Jl_indexOfChar_31 : decode (yB Y_Jl_indexOfChar) 31 = .ok (.iconst (-1), 1) := by decide +kernel
theorem d_Jl_indexOfChar_32 : decode (yB Y_Jl_indexOfChar) 32 = .ok (.ireturn, 1) := by decide +kernel
def F_Jl_indexOfChar_L7 (n : Nat) (E : zE) (S : zS) (r7 : Nat × Int32 × Int32 × Int32 × zH → Option (Int32 × zH)) (i0 : Nat) (x3 : Int32) (x4 : Int32) (x5 : Int32) (M : zH) : Option (Int32 × zH) :=
  if x3 ≤ x5 then
    some ((-1), M)
  else
    (zlb i0 x5).bind fun v_2 =>
    if v_2 = x4 then
      some (x5, M)
    else
      r7 (i0, x3, x4, x5 + 1, M)
def F_Jl_indexOfChar_b7 (n : Nat) (E : zE) (S : zS) : Nat × Int32 × Int32 × Int32 × zH → Option (Int32 × zH) := zfix (fun r7 s => F_Jl_indexOfChar_L7 n E S r7 s.1 s.2.1 s.2.2.1 s.2.2.2.1 s.2.2.2.2) n
def F_Jl_indexOfChar (n : Nat) (E : zE) (S : zS) (i0 : Nat) (x1 : Int32) (x2 : Int32) (x3 : Int32) (M : zH) : Option (Int32 × zH) :=
  F_Jl_indexOfChar_b7 n E S (i0, x3, x1.toInt8.toInt32, x2, M)
theorem K_Jl_indexOfChar_L7 (n : Nat) (E : zE) (S : zS) (r7 : Nat × Int32 × Int32 × Int32 × zH → Option (Int32 × zH)) (i0 : Nat) (x3 : Int32) (x4 : Int32) (x5 : Int32) (M : zH) (r : Int32) (M' : zH) (hr7 : ∀ (i0 : Nat) (x3 : Int32) (x4 : Int32) (x5 : Int32) (M : zH), r7 (i0, x3, x4, x5, M) = some (r, M') → zG E Y_Jl_indexOfChar (some (.int r), S, M') 7 [(0, .ref (eV E i0)), (3, .int x3), (4, .int x4), (5, .int x5)] [] S M 0 0) (h : F_Jl_indexOfChar_L7 n E S r7 i0 x3 x4 x5 M = some (r, M')) : zG E Y_Jl_indexOfChar (some (.int r), S, M') 7 [(0, .ref (eV E i0)), (3, .int x3), (4, .int x4), (5, .int x5)] [] S M 0 0 := by
  unfold F_Jl_indexOfChar_L7 at h
  refine zi_iload 3 d_Jl_indexOfChar_7 rfl ?_
  refine zi_iload_n 1 d_Jl_indexOfChar_9 rfl ?_
  refine zi_icmp_ge (tgt := 31) d_Jl_indexOfChar_10 rfl (fun c_1 => ?_) (fun c_1 => ?_)
  · rw [if_pos c_1] at h
    refine zi_iconst (-1) d_Jl_indexOfChar_31 rfl ?_
    cases h
    exact zo_ret d_Jl_indexOfChar_32 (Nat.le_of_ble_eq_true rfl) (Nat.le_of_ble_eq_true rfl) rfl
  · rw [if_neg c_1] at h
    refine zi_aload_n 0 d_Jl_indexOfChar_13 rfl ?_
    refine zi_iload 3 d_Jl_indexOfChar_14 rfl ?_
    obtain ⟨v_2, ev_2, h⟩ := zbind h
    refine zo_litb 17 d_Jl_indexOfChar_16 ev_2 rfl ?_
    refine zi_iload 2 d_Jl_indexOfChar_17 rfl ?_
    refine zi_icmp_ne (tgt := 25) d_Jl_indexOfChar_19 rfl (fun c_3 => ?_) (fun c_3 => ?_)
    · rw [if_neg c_3] at h
      refine zi_iinc 3 (x5 + 1) [(5, .int (x5 + 1)), (0, .ref (eV E i0)), (3, .int x3), (4, .int x4)] d_Jl_indexOfChar_25 rfl rfl (by decide) rfl ?_
      refine zi_goto (tgt := 7) d_Jl_indexOfChar_28 rfl ?_
      refine zi_lo [(0, .ref (eV E i0)), (3, .int x3), (4, .int x4), (5, .int (x5 + 1))] [1, 2, 3, 0] rfl ?_
      exact hr7 i0 x3 x4 (x5 + 1) M h
    · rw [if_pos c_3] at h
      refine zi_iload 3 d_Jl_indexOfChar_22 rfl ?_
      cases h
      exact zo_ret d_Jl_indexOfChar_24 (Nat.le_of_ble_eq_true rfl) (Nat.le_of_ble_eq_true rfl) rfl
theorem K_Jl_indexOfChar_b7 (n : Nat) (E : zE) (S : zS) (i0 : Nat) (x3 : Int32) (x4 : Int32) (x5 : Int32) (M : zH) (r : Int32) (M' : zH)  (h : F_Jl_indexOfChar_b7 n E S (i0, x3, x4, x5, M) = some (r, M')) : zG E Y_Jl_indexOfChar (some (.int r), S, M') 7 [(0, .ref (eV E i0)), (3, .int x3), (4, .int x4), (5, .int x5)] [] S M 0 0 := by
  have key : ∀ (k : Nat) (i0 : Nat) (x3 : Int32) (x4 : Int32) (x5 : Int32) (M : zH), zfix (fun r7 s => F_Jl_indexOfChar_L7 n E S r7 s.1 s.2.1 s.2.2.1 s.2.2.2.1 s.2.2.2.2) k (i0, x3, x4, x5, M) = some (r, M') → zG E Y_Jl_indexOfChar (some (.int r), S, M') 7 [(0, .ref (eV E i0)), (3, .int x3), (4, .int x4), (5, .int x5)] [] S M 0 0 := by
    intro k
    induction k with
    | zero => intro i0 x3 x4 x5 M h; cases h
    | succ k ih => intro i0 x3 x4 x5 M h; exact K_Jl_indexOfChar_L7 n E S _ i0 x3 x4 x5 M r M'  (fun i0 x3 x4 x5 M h => ih i0 x3 x4 x5 M h) h
  exact key n i0 x3 x4 x5 M h
theorem K_Jl_indexOfChar (n : Nat) (E : zE) (S : zS) (i0 : Nat) (x1 : Int32) (x2 : Int32) (x3 : Int32) (M : zH) (r : Int32) (M' : zH)  (h : F_Jl_indexOfChar n E S i0 x1 x2 x3 M = some (r, M')) : zG E Y_Jl_indexOfChar (some (.int r), S, M') 0 [(0, .ref (eV E i0)), (1, .int x1), (2, .int x2), (3, .int x3)] [] S M 0 0 := by
  unfold F_Jl_indexOfChar at h
  refine zi_iload_n 1 d_Jl_indexOfChar_0 rfl ?_
  refine zi_i2b d_Jl_indexOfChar_1 ?_
  refine zi_istore [(4, .int x1.toInt8.toInt32), (0, .ref (eV E i0)), (1, .int x1), (2, .int x2), (3, .int x3)] d_Jl_indexOfChar_2 (by decide) rfl ?_
  refine zi_iload_n 3 d_Jl_indexOfChar_4 rfl ?_
  refine zi_istore [(5, .int x2), (4, .int x1.toInt8.toInt32), (0, .ref (eV E i0)), (1, .int x1), (2, .int x2), (3, .int x3)] d_Jl_indexOfChar_5 (by decide) rfl ?_
  refine zi_lo [(0, .ref (eV E i0)), (3, .int x3), (4, .int x1.toInt8.toInt32), (5, .int x2)] [2, 5, 1, 0] rfl ?_
  exact K_Jl_indexOfChar_b7 n E S i0 x3 x1.toInt8.toInt32 x2 M r M'  h
theorem C_Jl_indexOfChar (n : Nat) (E : zE) (S : zS) (i0 : Nat) (x1 : Int32) (x2 : Int32) (x3 : Int32) (M : zH) (r : Int32) (M' : zH) (h : F_Jl_indexOfChar n E S i0 x1 x2 x3 M = some (r, M')) : zC E Y_Jl_indexOfChar [.ref (eV E i0), .int x1, .int x2, .int x3] S M (some (.int r), S, M') :=
  zC.of (Or.inl (show plainName "java/lang/StringLatin1" = true by decide)) (Nat.le_of_ble_eq_true rfl) (trivial) (K_Jl_indexOfChar n E S i0 x1 x2 x3 M r M' h)
theorem d_Jl_indexOf_0 : decode (yB Y_Jl_indexOf) 0 = .ok (.iload_n 1, 1) := by decide +kernel
theorem d_Jl_indexOf_1 : decode (yB Y_Jl_indexOf) 1 = .ok (.invokestatic 88, 3) := by decide +kernel
theorem d_Jl_indexOf_4 : decode (yB Y_Jl_indexOf) 4 = .ok (.ifCond .ne 5, 3) := by decide +kernel
theorem d_Jl_indexOf_7 : decode (yB Y_Jl_indexOf) 7 = .ok (.iconst (-1), 1) := by decide +kernel
theorem d_Jl_indexOf_8 : decode (yB Y_Jl_indexOf) 8 = .ok (.ireturn, 1) := by decide +kernel
theorem d_Jl_indexOf_9 : decode (yB Y_Jl_indexOf) 9 = .ok (.iload_n 2, 1) := by decide +kernel
theorem d_Jl_indexOf_10 : decode (yB Y_Jl_indexOf) 10 = .ok (.iconst 0, 1) := by decide +kernel
theorem d_Jl_indexOf_11 : decode (yB Y_Jl_indexOf) 11 = .ok (.invokestatic 92, 3) := by decide +kernel
theorem d_Jl_indexOf_14 : decode (yB Y_Jl_indexOf) 14 = .ok (.istore_n 2, 1) := by decide +kernel
theorem d_Jl_indexOf_15 : decode (yB Y_Jl_indexOf) 15 = .ok (.iload_n 3, 1) := by decide +kernel
theorem d_Jl_indexOf_16 : decode (yB Y_Jl_indexOf) 16 = .ok (.aload_n 0, 1) := by decide +kernel
theorem d_Jl_indexOf_17 : decode (yB Y_Jl_indexOf) 17 = .ok (.arraylength, 1) := by decide +kernel
theorem d_Jl_indexOf_18 : decode (yB Y_Jl_indexOf) 18 = .ok (.invokestatic 38, 3) := by decide +kernel
theorem d_Jl_indexOf_21 : decode (yB Y_Jl_indexOf) 21 = .ok (.istore_n 3, 1) := by decide +kernel
theorem d_Jl_indexOf_22 : decode (yB Y_Jl_indexOf) 22 = .ok (.iload_n 2, 1) := by decide +kernel
theorem d_Jl_indexOf_23 : decode (yB Y_Jl_indexOf) 23 = .ok (.iload_n 3, 1) := by decide +kernel
theorem d_Jl_indexOf_24 : decode (yB Y_Jl_indexOf) 24 = .ok (.if_icmp .lt 5, 3) := by decide +kernel
theorem d_Jl_indexOf_27 : decode (yB Y_Jl_indexOf) 27 = .ok (.iconst (-1), 1) := by decide +kernel
theorem d_Jl_indexOf_28 : decode (yB Y_Jl_indexOf) 28 = .ok (.ireturn, 1) := by decide +kernel
theorem d_Jl_indexOf_29 : decode (yB Y_Jl_indexOf) 29 = .ok (.aload_n 0, 1) := by decide +kernel
theorem d_Jl_indexOf_30 : decode (yB Y_Jl_indexOf) 30 = .ok (.iload_n 1, 1) := by decide +kernel
theorem d_Jl_indexOf_31 : decode (yB Y_Jl_indexOf) 31 = .ok (.iload_n 2, 1) := by decide +kernel
theorem d_Jl_indexOf_32 : decode (yB Y_Jl_indexOf) 32 = .ok (.iload_n 3, 1) := by decide +kernel
theorem d_Jl_indexOf_33 : decode (yB Y_Jl_indexOf) 33 = .ok (.invokestatic 95, 3) := by decide +kernel
theorem d_Jl_indexOf_36 : decode (yB Y_Jl_indexOf) 36 = .ok (.ireturn, 1) := by decide +kernel
def F_Jl_indexOf (n : Nat) (E : zE) (S : zS) (i0 : Nat) (x1 : Int32) (x2 : Int32) (x3 : Int32) (M : zH) : Option (Int32 × zH) :=
  (F_Jl_canEncode n E S x1 M).bind fun q_1 =>
  if q_1.1 = true then
    (F_Jm_max n E S x2 0 q_1.2).bind fun q_3 =>
    (zln i0).bind fun v_4 =>
    (F_Jm_min n E S x3 v_4 q_3.2).bind fun q_5 =>
    if q_3.1 < q_5.1 then
      (F_Jl_indexOfChar n E S i0 x1 q_3.1 q_5.1 q_5.2).bind fun q_7 =>
      some (q_7.1, q_7.2)
    else
      some ((-1), q_5.2)
  else
    some ((-1), q_1.2)
theorem K_Jl_indexOf (n : Nat) (E : zE) (S : zS) (i0 : Nat) (x1 : Int32) (x2 : Int32) (x3 : Int32) (M : zH) (r : Int32) (M' : zH)  (h : F_Jl_indexOf n E S i0 x1 x2 x3 M = some (r, M')) : zG E Y_Jl_indexOf (some (.int r), S, M') 0 [(0, .ref (eV E i0)), (1, .int x1), (2, .int x2), (3, .int x3)] [] S M 0 0 := by
  unfold F_Jl_indexOf at h
  refine zi_iload_n 1 d_Jl_indexOf_0 rfl ?_
  obtain ⟨q_1, eq_1, h⟩ := zbind h
  refine zo_stat (k' := 0) (n' := 0) 4 [.int x1] [] [.int (bI q_1.1)] (C_Jl_canEncode n E S x1 M q_1.1 q_1.2 eq_1) d_Jl_indexOf_1 tw_734 tw_732 tw_733 tw_16 dd_Jl_canEncode ⟨Nat.le_of_ble_eq_true rfl, Nat.le_of_ble_eq_true rfl, Nat.le_of_ble_eq_true rfl, Nat.le_of_ble_eq_true rfl⟩ (Nat.le_of_ble_eq_true rfl) rfl rfl rfl rfl ?_
  refine zo_ifneB d_Jl_indexOf_4 rfl 7 rfl (fun c_2 => ?_) (fun c_2 => ?_)
  · rw [if_pos c_2] at h
    refine zi_iload_n 2 d_Jl_indexOf_9 rfl ?_
    refine zi_iconst 0 d_Jl_indexOf_10 rfl ?_
    obtain ⟨q_3, eq_3, h⟩ := zbind h
    refine zo_stat (k' := 0) (n' := 0) 14 [.int x2, .int 0] [] [.int q_3.1] (C_Jm_max n E S x2 0 q_1.2 q_3.1 q_3.2 eq_3) d_Jl_indexOf_11 tw_440 tw_735 tw_439 tw_14 dd_Jm_max ⟨Nat.le_of_ble_eq_true rfl, Nat.le_of_ble_eq_true rfl, Nat.le_of_ble_eq_true rfl, Nat.le_of_ble_eq_true rfl⟩ (Nat.le_of_ble_eq_true rfl) rfl rfl rfl rfl ?_
    refine zi_istore_n [(2, .int q_3.1), (0, .ref (eV E i0)), (1, .int x1), (3, .int x3)] d_Jl_indexOf_14 (by decide) rfl ?_
    refine zi_iload_n 3 d_Jl_indexOf_15 rfl ?_
    refine zi_aload_n 1 d_Jl_indexOf_16 rfl ?_
    obtain ⟨v_4, ev_4, h⟩ := zbind h
    refine zo_litlen 18 d_Jl_indexOf_17 ev_4 rfl ?_
    obtain ⟨q_5, eq_5, h⟩ := zbind h
    refine zo_stat (k' := 0) (n' := 0) 21 [.int x3, .int v_4] [] [.int q_5.1] (C_Jm_min n E S x3 v_4 q_3.2 q_5.1 q_5.2 eq_5) d_Jl_indexOf_18 tw_437 tw_736 tw_436 tw_14 dd_Jm_min ⟨Nat.le_of_ble_eq_true rfl, Nat.le_of_ble_eq_true rfl, Nat.le_of_ble_eq_true rfl, Nat.le_of_ble_eq_true rfl⟩ (Nat.le_of_ble_eq_true rfl) rfl rfl rfl rfl ?_
    refine zi_istore_n [(3, .int q_5.1), (2, .int q_3.1), (0, .ref (eV E i0)), (1, .int x1)] d_Jl_indexOf_21 (by decide) rfl ?_
    refine zi_iload_n 1 d_Jl_indexOf_22 rfl ?_
    refine zi_iload_n 0 d_Jl_indexOf_23 rfl ?_
    refine zi_icmp_lt (tgt := 29) d_Jl_indexOf_24 rfl (fun c_6 => ?_) (fun c_6 => ?_)
    · rw [if_pos c_6] at h
      refine zi_aload_n 2 d_Jl_indexOf_29 rfl ?_
      refine zi_iload_n 3 d_Jl_indexOf_30 rfl ?_
      refine zi_iload_n 1 d_Jl_indexOf_31 rfl ?_
      refine zi_iload_n 0 d_Jl_indexOf_32 rfl ?_
      obtain ⟨q_7, eq_7, h⟩ := zbind h
      refine zo_stat (k' := 0) (n' := 0) 36 [.ref (eV E i0), .int x1, .int q_3.1, .int q_5.1] [] [.int q_7.1] (C_Jl_indexOfChar n E S i0 x1 q_3.1 q_5.1 q_5.2 q_7.1 q_7.2 eq_7) d_Jl_indexOf_33 tw_739 tw_737 tw_738 tw_16 dd_Jl_indexOfChar ⟨Nat.le_of_ble_eq_true rfl, Nat.le_of_ble_eq_true rfl, Nat.le_of_ble_eq_true rfl, Nat.le_of_ble_eq_true rfl⟩ (Nat.le_of_ble_eq_true rfl) rfl rfl rfl rfl ?_
      cases h
      exact zo_ret d_Jl_indexOf_36 (Nat.le_of_ble_eq_true rfl) (Nat.le_of_ble_eq_true rfl) rfl
    · rw [if_neg c_6] at h
      refine zi_iconst (-1) d_Jl_indexOf_27 rfl ?_
      cases h
      exact zo_ret d_Jl_indexOf_28 (Nat.le_of_ble_eq_true rfl) (Nat.le_of_ble_eq_true rfl) rfl
  · rw [if_neg c_2] at h
    refine zi_iconst (-1) d_Jl_indexOf_7 rfl ?_
    cases h
    exact zo_ret d_Jl_indexOf_8 (Nat.le_of_ble_eq_true rfl) (Nat.le_of_ble_eq_true rfl) rfl
theorem C_Jl_indexOf (n : Nat) (E : zE) (S : zS) (i0 : Nat) (x1 : Int32) (x2 : Int32) (x3 : Int32) (M : zH) (r : Int32) (M' : zH) (h : F_Jl_indexOf n E S i0 x1 x2 x3 M = some (r, M')) : zC E Y_Jl_indexOf [.ref (eV E i0), .int x1, .int x2, .int x3] S M (some (.int r), S, M') :=
  zC.of (Or.inl (show plainName "java/lang/StringLatin1" = true by decide)) (Nat.le_of_ble_eq_true rfl) (trivial) (K_Jl_indexOf n E S i0 x1 x2 x3 M r M' h)
theorem d_Js_indexOf2_0 : decode (yB Y_Js_indexOf2) 0 = .ok (.aload_n 0, 1) := by decide +kernel
theorem d_Js_indexOf2_1 : decode (yB Y_Js_indexOf2) 1 = .ok (.invokevirtual 492, 3) := by decide +kernel
theorem d_Js_indexOf2_4 : decode (yB Y_Js_indexOf2) 4 = .ok (.ifCond .eq 19, 3) := by decide +kernel
theorem d_Js_indexOf2_7 : decode (yB Y_Js_indexOf2) 7 = .ok (.aload_n 0, 1) := by decide +kernel
theorem d_Js_indexOf2_8 : decode (yB Y_Js_indexOf2) 8 = .ok (.getfield 9, 3) := by decide +kernel
theorem d_Js_indexOf2_11 : decode (yB Y_Js_indexOf2) 11 = .ok (.iload_n 1, 1) := by decide +kernel
theorem d_Js_indexOf2_12 : decode (yB Y_Js_indexOf2) 12 = .ok (.iload_n 2, 1) := by decide +kernel
theorem d_Js_indexOf2_13 : decode (yB Y_Js_indexOf2) 13 = .ok (.aload_n 0, 1) := by decide +kernel
theorem d_Js_indexOf2_14 : decode (yB Y_Js_indexOf2) 14 = .ok (.invokevirtual 505, 3) := by decide +kernel
theorem d_Js_indexOf2_17 : decode (yB Y_Js_indexOf2) 17 = .ok (.invokestatic 637, 3) := by decide +kernel
theorem d_Js_indexOf2_20 : decode (yB Y_Js_indexOf2) 20 = .ok (.goto 16, 3) := by decide +kernel
theorem d_Js_indexOf2_36 : decode (yB Y_Js_indexOf2) 36 = .ok (.ireturn, 1) := by decide +kernel
def F_Js_indexOf2 (n : Nat) (E : zE) (S : zS) (i0 : Nat) (x1 : Int32) (x2 : Int32) (M : zH) : Option (Int32 × zH) :=
  (zli i0).bind fun u_1 =>
  (F_Js_isLatin1 n E S i0 M).bind fun q_2 =>
  if q_2.1 = true then
    (zli i0).bind fun u_4 =>
    (zli i0).bind fun u_5 =>
    (F_Js_length n E S i0 q_2.2).bind fun q_6 =>
    (F_Jl_indexOf n E S i0 x1 x2 q_6.1 q_6.2).bind fun q_7 =>
    some (q_7.1, q_7.2)
  else
    none
theorem K_Js_indexOf2 (n : Nat) (E : zE) (S : zS) (i0 : Nat) (x1 : Int32) (x2 : Int32) (M : zH) (r : Int32) (M' : zH)  (h : F_Js_indexOf2 n E S i0 x1 x2 M = some (r, M')) : zG E Y_Js_indexOf2 (some (.int r), S, M') 0 [(0, .ref (eK E i0)), (1, .int x1), (2, .int x2)] [] S M 0 0 := by
  unfold F_Js_indexOf2 at h
  refine zi_aload_n 0 d_Js_indexOf2_0 rfl ?_
  obtain ⟨u_1, eu_1, h⟩ := zbind h
  obtain ⟨q_2, eq_2, h⟩ := zbind h
  refine zo_virtS (k' := 0) (n' := 0) 4 [] [] [.int (bI q_2.1)] (zli_s eu_1) (C_Js_isLatin1 n E S i0 M q_2.1 q_2.2 eq_2) d_Js_indexOf2_1 tw_611 tw_608 tw_609 tw_610 tw_15 dd_Js_isLatin1 ⟨Nat.le_of_ble_eq_true rfl, Nat.le_of_ble_eq_true rfl, Nat.le_of_ble_eq_true rfl, Nat.le_of_ble_eq_true rfl⟩ (Nat.le_of_ble_eq_true rfl) rfl rfl rfl rfl ?_
  refine zo_ifeqB d_Js_indexOf2_4 rfl 7 rfl (fun c_3 => ?_) (fun c_3 => ?_)
  · rw [if_neg c_3] at h
    cases h
  · rw [if_pos c_3] at h
    refine zi_aload_n 0 d_Js_indexOf2_7 rfl ?_
    obtain ⟨u_4, eu_4, h⟩ := zbind h
    refine zo_litf 11 d_Js_indexOf2_8 (zlitV E (zli_s eu_4)) tw_1913 rfl ?_
    refine zi_iload_n 1 d_Js_indexOf2_11 rfl ?_
    refine zi_iload_n 2 d_Js_indexOf2_12 rfl ?_
    refine zi_aload_n 0 d_Js_indexOf2_13 rfl ?_
    obtain ⟨u_5, eu_5, h⟩ := zbind h
    obtain ⟨q_6, eq_6, h⟩ := zbind h
    refine zo_virtS (k' := 0) (n' := 0) 17 [] [.int x2, .int x1, .ref (eV E i0)] [.int q_6.1, .int x2, .int x1, .ref (eV E i0)] (zli_s eu_5) (C_Js_length n E S i0 q_2.2 q_6.1 q_6.2 eq_6) d_Js_indexOf2_14 tw_597 tw_728 tw_595 tw_596 tw_15 dd_Js_length ⟨Nat.le_of_ble_eq_true rfl, Nat.le_of_ble_eq_true rfl, Nat.le_of_ble_eq_true rfl, Nat.le_of_ble_eq_true rfl⟩ (Nat.le_of_ble_eq_true rfl) rfl rfl rfl rfl ?_
    obtain ⟨q_7, eq_7, h⟩ := zbind h
    refine zo_stat (k' := 0) (n' := 0) 20 [.ref (eV E i0), .int x1, .int x2, .int q_6.1] [] [.int q_7.1] (C_Jl_indexOf n E S i0 x1 x2 q_6.1 q_6.2 q_7.1 q_7.2 eq_7) d_Js_indexOf2_17 tw_731 tw_729 tw_730 tw_16 dd_Jl_indexOf ⟨Nat.le_of_ble_eq_true rfl, Nat.le_of_ble_eq_true rfl, Nat.le_of_ble_eq_true rfl, Nat.le_of_ble_eq_true rfl⟩ (Nat.le_of_ble_eq_true rfl) rfl rfl rfl rfl ?_
    refine zi_goto (tgt := 36) d_Js_indexOf2_20 rfl ?_
    cases h
    exact zo_ret d_Js_indexOf2_36 (Nat.le_of_ble_eq_true rfl) (Nat.le_of_ble_eq_true rfl) rfl
theorem C_Js_indexOf2 (n : Nat) (E : zE) (S : zS) (i0 : Nat) (x1 : Int32) (x2 : Int32) (M : zH) (r : Int32) (M' : zH) (h : F_Js_indexOf2 n E S i0 x1 x2 M = some (r, M')) : zC E Y_Js_indexOf2 [.ref (eK E i0), .int x1, .int x2] S M (some (.int r), S, M') :=
  zC.of (Or.inl (show plainName "java/lang/String" = true by decide)) (Nat.le_of_ble_eq_true rfl) (trivial) (K_Js_indexOf2 n E S i0 x1 x2 M r M' h)
theorem d_Js_indexOf_0 : decode (yB Y_Js_indexOf) 0 = .ok (.aload_n 0, 1) := by decide +kernel
theorem d_Js_indexOf_1 : decode (yB Y_Js_indexOf) 1 = .ok (.iload_n 1, 1) := by decide +kernel
theorem d_Js_indexOf_2 : decode (yB Y_Js_indexOf) 2 = .ok (.iconst 0, 1) := by decide +kernel
theorem d_Js_indexOf_3 : decode (yB Y_Js_indexOf) 3 = .ok (.invokevirtual 633, 3) := by decide +kernel
theorem d_Js_indexOf_6 : decode (yB Y_Js_indexOf) 6 = .ok (.ireturn, 1) := by decide +kernel
def F_Js_indexOf (n : Nat) (E : zE) (S : zS) (i0 : Nat) (x1 : Int32) (M : zH) : Option (Int32 × zH) :=
  (zli i0).bind fun u_1 =>
  (F_Js_indexOf2 n E S i0 x1 0 M).bind fun q_2 =>
  some (q_2.1, q_2.2)
theorem K_Js_indexOf (n : Nat) (E : zE) (S : zS) (i0 : Nat) (x1 : Int32) (M : zH) (r : Int32) (M' : zH)  (h : F_Js_indexOf n E S i0 x1 M = some (r, M')) : zG E Y_Js_indexOf (some (.int r), S, M') 0 [(0, .ref (eK E i0)), (1, .int x1)] [] S M 0 0 := by
  unfold F_Js_indexOf at h
  refine zi_aload_n 0 d_Js_indexOf_0 rfl ?_
  refine zi_iload_n 1 d_Js_indexOf_1 rfl ?_
  refine zi_iconst 0 d_Js_indexOf_2 rfl ?_
  obtain ⟨u_1, eu_1, h⟩ := zbind h
  obtain ⟨q_2, eq_2, h⟩ := zbind h
  refine zo_virtS (k' := 0) (n' := 0) 6 [.int x1, .int 0] [] [.int q_2.1] (zli_s eu_1) (C_Js_indexOf2 n E S i0 x1 0 M q_2.1 q_2.2 eq_2) d_Js_indexOf_3 tw_727 tw_724 tw_725 tw_726 tw_15 dd_Js_indexOf2 ⟨Nat.le_of_ble_eq_true rfl, Nat.le_of_ble_eq_true rfl, Nat.le_of_ble_eq_true rfl, Nat.le_of_ble_eq_true rfl⟩ (Nat.le_of_ble_eq_true rfl) rfl rfl rfl rfl ?_
  cases h
  exact zo_ret d_Js_indexOf_6 (Nat.le_of_ble_eq_true rfl) (Nat.le_of_ble_eq_true rfl) rfl
theorem C_Js_indexOf (n : Nat) (E : zE) (S : zS) (i0 : Nat) (x1 : Int32) (M : zH) (r : Int32) (M' : zH) (h : F_Js_indexOf n E S i0 x1 M = some (r, M')) : zC E Y_Js_indexOf [.ref (eK E i0), .int x1] S M (some (.int r), S, M') :=
  zC.of (Or.inl (show plainName "java/lang/String" = true by decide)) (Nat.le_of_ble_eq_true rfl) (trivial) (K_Js_indexOf n E S i0 x1 M r M' h)
theorem d_Ta_signIn_0 : decode (yB Y_Ta_signIn) 0 = .ok (.aload_n 0, 1) := by decide +kernel
theorem d_Ta_signIn_1 : decode (yB Y_Ta_signIn) 1 = .ok (.getfield 19, 3) := by decide +kernel
theorem d_Ta_signIn_4 : decode (yB Y_Ta_signIn) 4 = .ok (.iconst 3, 1) := by decide +kernel
theorem d_Ta_signIn_5 : decode (yB Y_Ta_signIn) 5 = .ok (.if_icmp .ne 19, 3) := by decide +kernel
theorem d_Ta_signIn_8 : decode (yB Y_Ta_signIn) 8 = .ok (.aload_n 1, 1) := by decide +kernel
theorem d_Ta_signIn_9 : decode (yB Y_Ta_signIn) 9 = .ok (.aload_n 0, 1) := by decide +kernel
theorem d_Ta_signIn_10 : decode (yB Y_Ta_signIn) 10 = .ok (.aload_n 0, 1) := by decide +kernel
theorem d_Ta_signIn_11 : decode (yB Y_Ta_signIn) 11 = .ok (.getfield 22, 3) := by decide +kernel
theorem d_Ta_signIn_14 : decode (yB Y_Ta_signIn) 14 = .ok (.invokevirtual 34, 3) := by decide +kernel
theorem d_Ta_signIn_17 : decode (yB Y_Ta_signIn) 17 = .ok (.i2c, 1) := by decide +kernel
theorem d_Ta_signIn_18 : decode (yB Y_Ta_signIn) 18 = .ok (.invokevirtual 68, 3) := by decide +kernel
theorem d_Ta_signIn_21 : decode (yB Y_Ta_signIn) 21 = .ok (.goto 4, 3) := by decide +kernel
theorem d_Ta_signIn_24 : decode (yB Y_Ta_signIn) 24 = .ok (.iconst (-1), 1) := by decide +kernel
theorem d_Ta_signIn_25 : decode (yB Y_Ta_signIn) 25 = .ok (.ireturn, 1) := by decide +kernel
def F_Ta_signIn (n : Nat) (E : zE) (S : zS) (a0 : Nat) (i1 : Nat) (M : zH) : Option (Int32 × zH) :=
  (zgI S M a0 8 2).bind fun v_1 =>
  if v_1 = 3 then
    (zgI S M a0 8 3).bind fun v_3 =>
    (F_Ta_byteAt n E S a0 v_3 M).bind fun q_4 =>
    (zli i1).bind fun u_5 =>
    (F_Js_indexOf n E S i1 ((q_4.1.toUInt32 % 65536).toInt32) q_4.2).bind fun q_6 =>
    some (q_6.1, q_6.2)
  else
    some ((-1), M)
theorem K_Ta_signIn (n : Nat) (E : zE) (S : zS) (a0 : Nat) (i1 : Nat) (M : zH) (r : Int32) (M' : zH)  (h : F_Ta_signIn n E S a0 i1 M = some (r, M')) : zG E Y_Ta_signIn (some (.int r), S, M') 0 [(0, .ref a0), (1, .ref (eK E i1))] [] S M 0 0 := by
  unfold F_Ta_signIn at h
  refine zi_aload_n 0 d_Ta_signIn_0 rfl ?_
  obtain ⟨v_1, ev_1, h⟩ := zbind h
  refine zo_getI 4 zkd_8 2 d_Ta_signIn_1 ev_1 rfl tw_155 rfl ?_
  refine zi_iconst 3 d_Ta_signIn_4 rfl ?_
  refine zi_icmp_ne (tgt := 24) d_Ta_signIn_5 rfl (fun c_2 => ?_) (fun c_2 => ?_)
  · rw [if_neg c_2] at h
    refine zi_iconst (-1) d_Ta_signIn_24 rfl ?_
    cases h
    exact zo_ret d_Ta_signIn_25 (Nat.le_of_ble_eq_true rfl) (Nat.le_of_ble_eq_true rfl) rfl
  · rw [if_pos c_2] at h
    refine zi_aload_n 1 d_Ta_signIn_8 rfl ?_
    refine zi_aload_n 0 d_Ta_signIn_9 rfl ?_
    refine zi_aload_n 0 d_Ta_signIn_10 rfl ?_
    obtain ⟨v_3, ev_3, h⟩ := zbind h
    refine zo_getI 14 zkd_8 3 d_Ta_signIn_11 ev_3 rfl tw_156 rfl ?_
    obtain ⟨q_4, eq_4, h⟩ := zbind h
    refine zo_virt (k' := 0) (n' := 0) 17 [.int v_3] [.ref (eK E i1)] [.int q_4.1, .ref (eK E i1)] zkd_8 (zgI_s ev_1).1 (C_Ta_byteAt n E S a0 v_3 M q_4.1 q_4.2 eq_4) d_Ta_signIn_14 tw_551 tw_576 tw_549 tw_550 tw_5 dd_Ta_byteAt ⟨Nat.le_of_ble_eq_true rfl, Nat.le_of_ble_eq_true rfl, Nat.le_of_ble_eq_true rfl, Nat.le_of_ble_eq_true rfl⟩ (Nat.le_of_ble_eq_true rfl) rfl rfl rfl rfl ?_
    refine zi_i2c d_Ta_signIn_17 ?_
    obtain ⟨u_5, eu_5, h⟩ := zbind h
    obtain ⟨q_6, eq_6, h⟩ := zbind h
    refine zo_virtS (k' := 0) (n' := 0) 21 [.int ((q_4.1.toUInt32 % 65536).toInt32)] [] [.int q_6.1] (zli_s eu_5) (C_Js_indexOf n E S i1 ((q_4.1.toUInt32 % 65536).toInt32) q_4.2 q_6.1 q_6.2 eq_6) d_Ta_signIn_18 tw_723 tw_720 tw_721 tw_722 tw_15 dd_Js_indexOf ⟨Nat.le_of_ble_eq_true rfl, Nat.le_of_ble_eq_true rfl, Nat.le_of_ble_eq_true rfl, Nat.le_of_ble_eq_true rfl⟩ (Nat.le_of_ble_eq_true rfl) rfl rfl rfl rfl ?_
    refine zi_goto (tgt := 25) d_Ta_signIn_21 rfl ?_
    cases h
    exact zo_ret d_Ta_signIn_25 (Nat.le_of_ble_eq_true rfl) (Nat.le_of_ble_eq_true rfl) rfl
theorem C_Ta_signIn (n : Nat) (E : zE) (S : zS) (a0 : Nat) (i1 : Nat) (M : zH) (r : Int32) (M' : zH) (h : F_Ta_signIn n E S a0 i1 M = some (r, M')) : zC E Y_Ta_signIn [.ref a0, .ref (eK E i1)] S M (some (.int r), S, M') :=
  zC.of (Or.inl (show plainName "NightColander$Tape" = true by decide)) (Nat.le_of_ble_eq_true rfl) (trivial) (K_Ta_signIn n E S a0 i1 M r M' h)
theorem d_Ps_readTerm_0 : decode prog_7_method_13_code 0 = .ok (.aload_n 0, 1) := by decide +kernel
theorem d_Ps_readTerm_1 : decode prog_7_method_13_code 1 = .ok (.iload_n 1, 1) := by decide +kernel
theorem d_Ps_readTerm_2 : decode prog_7_method_13_code 2 = .ok (.invokevirtual 147, 3) := by decide +kernel
theorem d_Ps_readTerm_5 : decode prog_7_method_13_code 5 = .ok (.ifCond .ne 5, 3) := by decide +kernel
theorem d_Ps_readTerm_8 : decode prog_7_method_13_code 8 = .ok (.iconst 0, 1) := by decide +kernel
theorem d_Ps_readTerm_9 : decode prog_7_method_13_code 9 = .ok (.ireturn, 1) := by decide +kernel
theorem d_Ps_readTerm_10 : decode prog_7_method_13_code 10 = .ok (.iconst 0, 1) := by decide +kernel
theorem d_Ps_readTerm_11 : decode prog_7_method_13_code 11 = .ok (.istore_n 2, 1) := by decide +kernel
theorem d_Ps_readTerm_12 : decode prog_7_method_13_code 12 = .ok (.iload_n 2, 1) := by decide +kernel
theorem d_Ps_readTerm_13 : decode prog_7_method_13_code 13 = .ok (.sipush 400, 3) := by decide +kernel
theorem d_Ps_readTerm_16 : decode prog_7_method_13_code 16 = .ok (.if_icmp .ge 62, 3) := by decide +kernel
theorem d_Ps_readTerm_19 : decode prog_7_method_13_code 19 = .ok (.aload_n 0, 1) := by decide +kernel
theorem d_Ps_readTerm_20 : decode prog_7_method_13_code 20 = .ok (.getfield 26, 3) := by decide +kernel
theorem d_Ps_readTerm_23 : decode prog_7_method_13_code 23 = .ok (.ldc 150, 2) := by decide +kernel
theorem d_Ps_readTerm_25 : decode prog_7_method_13_code 25 = .ok (.invokevirtual 139, 3) := by decide +kernel
theorem d_Ps_readTerm_28 : decode prog_7_method_13_code 28 = .ok (.iconst (-1), 1) := by decide +kernel
theorem d_Ps_readTerm_29 : decode prog_7_method_13_code 29 = .ok (.if_icmp .eq 49, 3) := by decide +kernel
theorem d_Ps_readTerm_32 : decode prog_7_method_13_code 32 = .ok (.aload_n 0, 1) := by decide +kernel
theorem d_Ps_readTerm_33 : decode prog_7_method_13_code 33 = .ok (.getfield 26, 3) := by decide +kernel
theorem d_Ps_readTerm_36 : decode prog_7_method_13_code 36 = .ok (.ldc 150, 2) := by decide +kernel
theorem d_Ps_readTerm_38 : decode prog_7_method_13_code 38 = .ok (.invokevirtual 139, 3) := by decide +kernel
theorem d_Ps_readTerm_41 : decode prog_7_method_13_code 41 = .ok (.istore_n 3, 1) := by decide +kernel
theorem d_Ps_readTerm_42 : decode prog_7_method_13_code 42 = .ok (.aload_n 0, 1) := by decide +kernel
theorem d_Ps_readTerm_43 : decode prog_7_method_13_code 43 = .ok (.getfield 26, 3) := by decide +kernel
theorem d_Ps_readTerm_46 : decode prog_7_method_13_code 46 = .ok (.invokevirtual 53, 3) := by decide +kernel
theorem d_Ps_readTerm_49 : decode prog_7_method_13_code 49 = .ok (.aload_n 0, 1) := by decide +kernel
theorem d_Ps_readTerm_50 : decode prog_7_method_13_code 50 = .ok (.iload_n 1, 1) := by decide +kernel
theorem d_Ps_readTerm_51 : decode prog_7_method_13_code 51 = .ok (.invokevirtual 147, 3) := by decide +kernel
theorem d_Ps_readTerm_54 : decode prog_7_method_13_code 54 = .ok (.ifCond .ne 5, 3) := by decide +kernel
theorem d_Ps_readTerm_57 : decode prog_7_method_13_code 57 = .ok (.iconst 0, 1) := by decide +kernel
theorem d_Ps_readTerm_58 : decode prog_7_method_13_code 58 = .ok (.ireturn, 1) := by decide +kernel
theorem d_Ps_readTerm_59 : decode prog_7_method_13_code 59 = .ok (.aload_n 0, 1) := by decide +kernel
theorem d_Ps_readTerm_60 : decode prog_7_method_13_code 60 = .ok (.getfield 12, 3) := by decide +kernel
theorem d_Ps_readTerm_63 : decode prog_7_method_13_code 63 = .ok (.bipush 7, 2) := by decide +kernel
theorem d_Ps_readTerm_65 : decode prog_7_method_13_code 65 = .ok (.iload_n 3, 1) := by decide +kernel
theorem d_Ps_readTerm_66 : decode prog_7_method_13_code 66 = .ok (.iadd, 1) := by decide +kernel
theorem d_Ps_readTerm_67 : decode prog_7_method_13_code 67 = .ok (.iconst 0, 1) := by decide +kernel
theorem d_Ps_readTerm_68 : decode prog_7_method_13_code 68 = .ok (.invokevirtual 117, 3) := by decide +kernel
theorem d_Ps_readTerm_71 : decode prog_7_method_13_code 71 = .ok (.pop, 1) := by decide +kernel
theorem d_Ps_readTerm_72 : decode prog_7_method_13_code 72 = .ok (.iinc 2 1, 3) := by decide +kernel
theorem d_Ps_readTerm_75 : decode prog_7_method_13_code 75 = .ok (.goto (-63), 3) := by decide +kernel
theorem d_Ps_readTerm_78 : decode prog_7_method_13_code 78 = .ok (.iconst 1, 1) := by decide +kernel
theorem d_Ps_readTerm_79 : decode prog_7_method_13_code 79 = .ok (.ireturn, 1) := by decide +kernel
def F_Ps_readTerm_L12 (n : Nat) (E : zE) (S : zS) (rc : Nat × Int32 × zH → Option (Bool × zH)) (r12 : Nat × Int32 × Int32 × zH → Option (Bool × zH)) (a0 : Nat) (x1 : Int32) (x2 : Int32) (M : zH) : Option (Bool × zH) :=
  if 400 ≤ x2 then
    some (true, M)
  else
    (zgR S a0 5 1).bind fun b_2 =>
    (zck S b_2 8).bind fun u_3 =>
    (F_Ta_signIn n E S b_2 6 M).bind fun q_4 =>
    if q_4.1 = (-1) then
      some (true, q_4.2)
    else
      (F_Ta_signIn n E S b_2 6 q_4.2).bind fun q_6 =>
      (F_Ta_advance n E S b_2 q_6.2).bind fun q_7 =>
      (F_Ps_readPart n E S rc a0 x1 q_7).bind fun q_8 =>
      if q_8.1 = true then
        (zgR S a0 5 0).bind fun b_10 =>
        (zck S b_10 9).bind fun u_11 =>
        (F_Te_add n E S b_10 (7 + q_6.1) 0 q_8.2).bind fun q_12 =>
        r12 (a0, x1, x2 + 1, q_12.2)
      else
        some (false, q_8.2)
def F_Ps_readTerm_b12 (n : Nat) (E : zE) (S : zS) (rc : Nat × Int32 × zH → Option (Bool × zH)) : Nat × Int32 × Int32 × zH → Option (Bool × zH) := zfix (fun r12 s => F_Ps_readTerm_L12 n E S rc r12 s.1 s.2.1 s.2.2.1 s.2.2.2) n
def F_Ps_readTerm (n : Nat) (E : zE) (S : zS) (rc : Nat × Int32 × zH → Option (Bool × zH)) (a0 : Nat) (x1 : Int32) (M : zH) : Option (Bool × zH) :=
  (zck S a0 5).bind fun u_13 =>
  (F_Ps_readPart n E S rc a0 x1 M).bind fun q_14 =>
  if q_14.1 = true then
    F_Ps_readTerm_b12 n E S rc (a0, x1, 0, q_14.2)
  else
    some (false, q_14.2)
theorem K_Ps_readTerm_L12 (d : Nat) (n : Nat) (E : zE) (S : zS) (rc : Nat × Int32 × zH → Option (Bool × zH)) (r12 : Nat × Int32 × Int32 × zH → Option (Bool × zH)) (a0 : Nat) (x1 : Int32) (x2 : Int32) (M : zH) (r : Bool) (M' : zH) (hrc : ∀ (p0 : Nat) (p1 : Int32) (M : zH) (r : Bool) (M' : zH), rc (p0, p1, M) = some (r, M') → zC E (Y_Ps_readSum d) [.ref p0, .int p1] S M (some (.int (bI r)), S, M')) (hr12 : ∀ (a0 : Nat) (x1 : Int32) (x2 : Int32) (M : zH), r12 (a0, x1, x2, M) = some (r, M') → zG E (Y_Ps_readTerm (d + 1)) (some (.int (bI r)), S, M') 12 [(0, .ref a0), (1, .int x1), (2, .int x2)] [] S M 0 0) (h : F_Ps_readTerm_L12 n E S rc r12 a0 x1 x2 M = some (r, M')) : zG E (Y_Ps_readTerm (d + 1)) (some (.int (bI r)), S, M') 12 [(0, .ref a0), (1, .int x1), (2, .int x2)] [] S M 0 0 := by
  unfold F_Ps_readTerm_L12 at h
  refine zi_iload_n 2 d_Ps_readTerm_12 rfl ?_
  refine zi_sipush 400 d_Ps_readTerm_13 rfl ?_
  refine zi_icmp_ge (tgt := 78) d_Ps_readTerm_16 rfl (fun c_1 => ?_) (fun c_1 => ?_)
  · rw [if_pos c_1] at h
    refine zi_iconst 1 d_Ps_readTerm_78 rfl ?_
    cases h
    exact zo_retB d_Ps_readTerm_79 (Nat.le_of_ble_eq_true rfl) (Nat.le_of_ble_eq_true rfl) rfl
  · rw [if_neg c_1] at h
    refine zi_aload_n 0 d_Ps_readTerm_19 rfl ?_
    obtain ⟨b_2, eb_2, h⟩ := zbind h
    refine zo_getR 23 zkd_5 1 d_Ps_readTerm_20 eb_2 rfl tw_217 rfl ?_
    refine zi_ldcS d_Ps_readTerm_23 (zlit_6 E) ?_
    obtain ⟨u_3, eu_3, h⟩ := zbind h
    obtain ⟨q_4, eq_4, h⟩ := zbind h
    refine zo_virt (k' := 0) (n' := 0) 28 [.ref (eK E 6)] [] [.int q_4.1] zkd_8 (zck_s eu_3) (C_Ta_signIn n E S b_2 6 M q_4.1 q_4.2 eq_4) d_Ps_readTerm_25 tw_719 tw_716 tw_717 tw_718 tw_5 dd_Ta_signIn (by refine ⟨?_, ?_, ?_, ?_⟩ <;> simp only [yH, yL, yC, yS, Y_Ps_readTerm, Y_Ta_signIn] <;> omega) (Nat.le_of_ble_eq_true rfl) rfl rfl rfl rfl ?_
    refine zi_iconst (-1) d_Ps_readTerm_28 rfl ?_
    refine zi_icmp_eq (tgt := 78) d_Ps_readTerm_29 rfl (fun c_5 => ?_) (fun c_5 => ?_)
    · rw [if_pos c_5] at h
      refine zi_iconst 1 d_Ps_readTerm_78 rfl ?_
      cases h
      exact zo_retB d_Ps_readTerm_79 (Nat.le_of_ble_eq_true rfl) (Nat.le_of_ble_eq_true rfl) rfl
    · rw [if_neg c_5] at h
      refine zi_aload_n 0 d_Ps_readTerm_32 rfl ?_
      refine zo_getR 36 zkd_5 1 d_Ps_readTerm_33 eb_2 rfl tw_217 rfl ?_
      refine zi_ldcS d_Ps_readTerm_36 (zlit_6 E) ?_
      obtain ⟨q_6, eq_6, h⟩ := zbind h
      refine zo_virt (k' := 0) (n' := 0) 41 [.ref (eK E 6)] [] [.int q_6.1] zkd_8 (zck_s eu_3) (C_Ta_signIn n E S b_2 6 q_4.2 q_6.1 q_6.2 eq_6) d_Ps_readTerm_38 tw_719 tw_716 tw_717 tw_718 tw_5 dd_Ta_signIn (by refine ⟨?_, ?_, ?_, ?_⟩ <;> simp only [yH, yL, yC, yS, Y_Ps_readTerm, Y_Ta_signIn] <;> omega) (Nat.le_of_ble_eq_true rfl) rfl rfl rfl rfl ?_
      refine zi_istore_n [(3, .int q_6.1), (0, .ref a0), (1, .int x1), (2, .int x2)] d_Ps_readTerm_41 (Nat.le_of_ble_eq_true rfl) rfl ?_
      refine zi_aload_n 1 d_Ps_readTerm_42 rfl ?_
      refine zo_getR 46 zkd_5 1 d_Ps_readTerm_43 eb_2 rfl tw_217 rfl ?_
      obtain ⟨q_7, eq_7, h⟩ := zbind h
      refine zo_virt (k' := 0) (n' := 0) 49 [] [] [] zkd_8 (zck_s eu_3) (C_Ta_advance n E S b_2 q_6.2 q_7 eq_7) d_Ps_readTerm_46 tw_575 tw_655 tw_573 tw_574 tw_5 dd_Ta_advance (by refine ⟨?_, ?_, ?_, ?_⟩ <;> simp only [yH, yL, yC, yS, Y_Ps_readTerm, Y_Ta_advance] <;> omega) (Nat.le_of_ble_eq_true rfl) rfl rfl rfl rfl ?_
      refine zi_aload_n 1 d_Ps_readTerm_49 rfl ?_
      refine zi_iload_n 2 d_Ps_readTerm_50 rfl ?_
      obtain ⟨q_8, eq_8, h⟩ := zbind h
      refine zo_virt (k' := 0) (n' := 0) 54 [.int x1] [] [.int (bI q_8.1)] zkd_5 (zgR_s eb_2).1 (C_Ps_readPart d n E S rc a0 x1 q_7 q_8.1 q_8.2 hrc eq_8) d_Ps_readTerm_51 tw_677 tw_674 tw_676 ts_12 tw_6 dd_Ps_readPart (by refine ⟨?_, ?_, ?_, ?_⟩ <;> simp only [yH, yL, yC, yS, Y_Ps_readTerm, Y_Ps_readPart] <;> omega) (Nat.le_of_ble_eq_true rfl) rfl rfl rfl rfl ?_
      refine zo_ifneB d_Ps_readTerm_54 rfl 57 rfl (fun c_9 => ?_) (fun c_9 => ?_)
      · rw [if_pos c_9] at h
        refine zi_aload_n 1 d_Ps_readTerm_59 rfl ?_
        obtain ⟨b_10, eb_10, h⟩ := zbind h
        refine zo_getR 63 zkd_5 0 d_Ps_readTerm_60 eb_10 rfl tw_215 rfl ?_
        refine zi_bipush 7 d_Ps_readTerm_63 rfl ?_
        refine zi_iload_n 0 d_Ps_readTerm_65 rfl ?_
        refine zi_iadd d_Ps_readTerm_66 ?_
        refine zi_iconst 0 d_Ps_readTerm_67 rfl ?_
        obtain ⟨u_11, eu_11, h⟩ := zbind h
        obtain ⟨q_12, eq_12, h⟩ := zbind h
        refine zo_virt (k' := 0) (n' := 0) 71 [.int (7 + q_6.1), .int 0] [] [.int q_12.1] zkd_9 (zck_s eu_11) (C_Te_add n E S b_10 (7 + q_6.1) 0 q_8.2 q_12.1 q_12.2 eq_12) d_Ps_readTerm_68 tw_698 tw_695 tw_696 tw_697 tw_7 dd_Te_add (by refine ⟨?_, ?_, ?_, ?_⟩ <;> simp only [yH, yL, yC, yS, Y_Ps_readTerm, Y_Te_add] <;> omega) (Nat.le_of_ble_eq_true rfl) rfl rfl rfl rfl ?_
        refine zi_pop d_Ps_readTerm_71 rfl ?_
        refine zi_iinc 3 (x2 + 1) [(2, .int (x2 + 1)), (3, .int q_6.1), (0, .ref a0), (1, .int x1)] d_Ps_readTerm_72 rfl rfl (Nat.le_of_ble_eq_true rfl) rfl ?_
        refine zi_goto (tgt := 12) d_Ps_readTerm_75 rfl ?_
        refine zi_lo [(0, .ref a0), (1, .int x1), (2, .int (x2 + 1))] [2, 3, 0] rfl ?_
        exact hr12 a0 x1 (x2 + 1) q_12.2 h
      · rw [if_neg c_9] at h
        refine zi_iconst 0 d_Ps_readTerm_57 rfl ?_
        cases h
        exact zo_retB d_Ps_readTerm_58 (Nat.le_of_ble_eq_true rfl) (Nat.le_of_ble_eq_true rfl) rfl
theorem K_Ps_readTerm_b12 (d : Nat) (n : Nat) (E : zE) (S : zS) (rc : Nat × Int32 × zH → Option (Bool × zH)) (a0 : Nat) (x1 : Int32) (x2 : Int32) (M : zH) (r : Bool) (M' : zH) (hrc : ∀ (p0 : Nat) (p1 : Int32) (M : zH) (r : Bool) (M' : zH), rc (p0, p1, M) = some (r, M') → zC E (Y_Ps_readSum d) [.ref p0, .int p1] S M (some (.int (bI r)), S, M'))  (h : F_Ps_readTerm_b12 n E S rc (a0, x1, x2, M) = some (r, M')) : zG E (Y_Ps_readTerm (d + 1)) (some (.int (bI r)), S, M') 12 [(0, .ref a0), (1, .int x1), (2, .int x2)] [] S M 0 0 := by
  have key : ∀ (k : Nat) (a0 : Nat) (x1 : Int32) (x2 : Int32) (M : zH), zfix (fun r12 s => F_Ps_readTerm_L12 n E S rc r12 s.1 s.2.1 s.2.2.1 s.2.2.2) k (a0, x1, x2, M) = some (r, M') → zG E (Y_Ps_readTerm (d + 1)) (some (.int (bI r)), S, M') 12 [(0, .ref a0), (1, .int x1), (2, .int x2)] [] S M 0 0 := by
    intro k
    induction k with
    | zero => intro a0 x1 x2 M h; cases h
    | succ k ih => intro a0 x1 x2 M h; exact K_Ps_readTerm_L12 d n E S rc _ a0 x1 x2 M r M' hrc  (fun a0 x1 x2 M h => ih a0 x1 x2 M h) h
  exact key n a0 x1 x2 M h
theorem K_Ps_readTerm (d : Nat) (n : Nat) (E : zE) (S : zS) (rc : Nat × Int32 × zH → Option (Bool × zH)) (a0 : Nat) (x1 : Int32) (M : zH) (r : Bool) (M' : zH) (hrc : ∀ (p0 : Nat) (p1 : Int32) (M : zH) (r : Bool) (M' : zH), rc (p0, p1, M) = some (r, M') → zC E (Y_Ps_readSum d) [.ref p0, .int p1] S M (some (.int (bI r)), S, M'))  (h : F_Ps_readTerm n E S rc a0 x1 M = some (r, M')) : zG E (Y_Ps_readTerm (d + 1)) (some (.int (bI r)), S, M') 0 [(0, .ref a0), (1, .int x1)] [] S M 0 0 := by
  unfold F_Ps_readTerm at h
  refine zi_aload_n 0 d_Ps_readTerm_0 rfl ?_
  refine zi_iload_n 1 d_Ps_readTerm_1 rfl ?_
  obtain ⟨u_13, eu_13, h⟩ := zbind h
  obtain ⟨q_14, eq_14, h⟩ := zbind h
  refine zo_virt (k' := 0) (n' := 0) 5 [.int x1] [] [.int (bI q_14.1)] zkd_5 (zck_s eu_13) (C_Ps_readPart d n E S rc a0 x1 M q_14.1 q_14.2 hrc eq_14) d_Ps_readTerm_2 tw_677 tw_674 tw_676 ts_12 tw_6 dd_Ps_readPart (by refine ⟨?_, ?_, ?_, ?_⟩ <;> simp only [yH, yL, yC, yS, Y_Ps_readTerm, Y_Ps_readPart] <;> omega) (Nat.le_of_ble_eq_true rfl) rfl rfl rfl rfl ?_
  refine zo_ifneB d_Ps_readTerm_5 rfl 8 rfl (fun c_15 => ?_) (fun c_15 => ?_)
  · rw [if_pos c_15] at h
    refine zi_iconst 0 d_Ps_readTerm_10 rfl ?_
    refine zi_istore_n [(2, .int 0), (0, .ref a0), (1, .int x1)] d_Ps_readTerm_11 (Nat.le_of_ble_eq_true rfl) rfl ?_
    refine zi_lo [(0, .ref a0), (1, .int x1), (2, .int 0)] [1, 2, 0] rfl ?_
    exact K_Ps_readTerm_b12 d n E S rc a0 x1 0 q_14.2 r M' hrc  h
  · rw [if_neg c_15] at h
    refine zi_iconst 0 d_Ps_readTerm_8 rfl ?_
    cases h
    exact zo_retB d_Ps_readTerm_9 (Nat.le_of_ble_eq_true rfl) (Nat.le_of_ble_eq_true rfl) rfl
theorem C_Ps_readTerm (d : Nat) (n : Nat) (E : zE) (S : zS) (rc : Nat × Int32 × zH → Option (Bool × zH)) (a0 : Nat) (x1 : Int32) (M : zH) (r : Bool) (M' : zH) (hrc : ∀ (p0 : Nat) (p1 : Int32) (M : zH) (r : Bool) (M' : zH), rc (p0, p1, M) = some (r, M') → zC E (Y_Ps_readSum d) [.ref p0, .int p1] S M (some (.int (bI r)), S, M')) (h : F_Ps_readTerm n E S rc a0 x1 M = some (r, M')) : zC E (Y_Ps_readTerm (d + 1)) [.ref a0, .int x1] S M (some (.int (bI r)), S, M') :=
  zC.of (Or.inl (show plainName "NightColander$Parser" = true by decide)) (Nat.le_of_ble_eq_true rfl) (bI_nar r) (K_Ps_readTerm d n E S rc a0 x1 M r M' hrc h)
theorem d_Ps_readSum_0 : decode prog_7_method_12_code 0 = .ok (.aload_n 0, 1) := by decide +kernel
theorem d_Ps_readSum_1 : decode prog_7_method_12_code 1 = .ok (.iload_n 1, 1) := by decide +kernel
theorem d_Ps_readSum_2 : decode prog_7_method_12_code 2 = .ok (.invokevirtual 142, 3) := by decide +kernel
theorem d_Ps_readSum_5 : decode prog_7_method_12_code 5 = .ok (.ifCond .ne 5, 3) := by decide +kernel
theorem d_Ps_readSum_8 : decode prog_7_method_12_code 8 = .ok (.iconst 0, 1) := by decide +kernel
theorem d_Ps_readSum_9 : decode prog_7_method_12_code 9 = .ok (.ireturn, 1) := by decide +kernel
theorem d_Ps_readSum_10 : decode prog_7_method_12_code 10 = .ok (.iconst 0, 1) := by decide +kernel
theorem d_Ps_readSum_11 : decode prog_7_method_12_code 11 = .ok (.istore_n 2, 1) := by decide +kernel
theorem d_Ps_readSum_12 : decode prog_7_method_12_code 12 = .ok (.iload_n 2, 1) := by decide +kernel
theorem d_Ps_readSum_13 : decode prog_7_method_12_code 13 = .ok (.sipush 400, 3) := by decide +kernel
theorem d_Ps_readSum_16 : decode prog_7_method_12_code 16 = .ok (.if_icmp .ge 61, 3) := by decide +kernel
theorem d_Ps_readSum_19 : decode prog_7_method_12_code 19 = .ok (.aload_n 0, 1) := by decide +kernel
theorem d_Ps_readSum_20 : decode prog_7_method_12_code 20 = .ok (.getfield 26, 3) := by decide +kernel
theorem d_Ps_readSum_23 : decode prog_7_method_12_code 23 = .ok (.ldc 145, 2) := by decide +kernel
theorem d_Ps_readSum_25 : decode prog_7_method_12_code 25 = .ok (.invokevirtual 139, 3) := by decide +kernel
theorem d_Ps_readSum_28 : decode prog_7_method_12_code 28 = .ok (.iconst (-1), 1) := by decide +kernel
theorem d_Ps_readSum_29 : decode prog_7_method_12_code 29 = .ok (.if_icmp .eq 48, 3) := by decide +kernel
theorem d_Ps_readSum_32 : decode prog_7_method_12_code 32 = .ok (.aload_n 0, 1) := by decide +kernel
theorem d_Ps_readSum_33 : decode prog_7_method_12_code 33 = .ok (.getfield 26, 3) := by decide +kernel
theorem d_Ps_readSum_36 : decode prog_7_method_12_code 36 = .ok (.ldc 145, 2) := by decide +kernel
theorem d_Ps_readSum_38 : decode prog_7_method_12_code 38 = .ok (.invokevirtual 139, 3) := by decide +kernel
theorem d_Ps_readSum_41 : decode prog_7_method_12_code 41 = .ok (.istore_n 3, 1) := by decide +kernel
theorem d_Ps_readSum_42 : decode prog_7_method_12_code 42 = .ok (.aload_n 0, 1) := by decide +kernel
theorem d_Ps_readSum_43 : decode prog_7_method_12_code 43 = .ok (.getfield 26, 3) := by decide +kernel
theorem d_Ps_readSum_46 : decode prog_7_method_12_code 46 = .ok (.invokevirtual 53, 3) := by decide +kernel
theorem d_Ps_readSum_49 : decode prog_7_method_12_code 49 = .ok (.aload_n 0, 1) := by decide +kernel
theorem d_Ps_readSum_50 : decode prog_7_method_12_code 50 = .ok (.iload_n 1, 1) := by decide +kernel
theorem d_Ps_readSum_51 : decode prog_7_method_12_code 51 = .ok (.invokevirtual 142, 3) := by decide +kernel
theorem d_Ps_readSum_54 : decode prog_7_method_12_code 54 = .ok (.ifCond .ne 5, 3) := by decide +kernel
theorem d_Ps_readSum_57 : decode prog_7_method_12_code 57 = .ok (.iconst 0, 1) := by decide +kernel
theorem d_Ps_readSum_58 : decode prog_7_method_12_code 58 = .ok (.ireturn, 1) := by decide +kernel
theorem d_Ps_readSum_59 : decode prog_7_method_12_code 59 = .ok (.aload_n 0, 1) := by decide +kernel
theorem d_Ps_readSum_60 : decode prog_7_method_12_code 60 = .ok (.getfield 12, 3) := by decide +kernel
theorem d_Ps_readSum_63 : decode prog_7_method_12_code 63 = .ok (.iconst 5, 1) := by decide +kernel
theorem d_Ps_readSum_64 : decode prog_7_method_12_code 64 = .ok (.iload_n 3, 1) := by decide +kernel
theorem d_Ps_readSum_65 : decode prog_7_method_12_code 65 = .ok (.iadd, 1) := by decide +kernel
theorem d_Ps_readSum_66 : decode prog_7_method_12_code 66 = .ok (.iconst 0, 1) := by decide +kernel
theorem d_Ps_readSum_67 : decode prog_7_method_12_code 67 = .ok (.invokevirtual 117, 3) := by decide +kernel
theorem d_Ps_readSum_70 : decode prog_7_method_12_code 70 = .ok (.pop, 1) := by decide +kernel
theorem d_Ps_readSum_71 : decode prog_7_method_12_code 71 = .ok (.iinc 2 1, 3) := by decide +kernel
theorem d_Ps_readSum_74 : decode prog_7_method_12_code 74 = .ok (.goto (-62), 3) := by decide +kernel
theorem d_Ps_readSum_77 : decode prog_7_method_12_code 77 = .ok (.iconst 1, 1) := by decide +kernel
theorem d_Ps_readSum_78 : decode prog_7_method_12_code 78 = .ok (.ireturn, 1) := by decide +kernel
def F_Ps_readSum_L12 (n : Nat) (E : zE) (S : zS) (rc : Nat × Int32 × zH → Option (Bool × zH)) (r12 : Nat × Int32 × Int32 × zH → Option (Bool × zH)) (a0 : Nat) (x1 : Int32) (x2 : Int32) (M : zH) : Option (Bool × zH) :=
  if 400 ≤ x2 then
    some (true, M)
  else
    (zgR S a0 5 1).bind fun b_2 =>
    (zck S b_2 8).bind fun u_3 =>
    (F_Ta_signIn n E S b_2 7 M).bind fun q_4 =>
    if q_4.1 = (-1) then
      some (true, q_4.2)
    else
      (F_Ta_signIn n E S b_2 7 q_4.2).bind fun q_6 =>
      (F_Ta_advance n E S b_2 q_6.2).bind fun q_7 =>
      (F_Ps_readTerm n E S rc a0 x1 q_7).bind fun q_8 =>
      if q_8.1 = true then
        (zgR S a0 5 0).bind fun b_10 =>
        (zck S b_10 9).bind fun u_11 =>
        (F_Te_add n E S b_10 (5 + q_6.1) 0 q_8.2).bind fun q_12 =>
        r12 (a0, x1, x2 + 1, q_12.2)
      else
        some (false, q_8.2)
def F_Ps_readSum_b12 (n : Nat) (E : zE) (S : zS) (rc : Nat × Int32 × zH → Option (Bool × zH)) : Nat × Int32 × Int32 × zH → Option (Bool × zH) := zfix (fun r12 s => F_Ps_readSum_L12 n E S rc r12 s.1 s.2.1 s.2.2.1 s.2.2.2) n
def F_Ps_readSum (n : Nat) (E : zE) (S : zS) (rc : Nat × Int32 × zH → Option (Bool × zH)) (a0 : Nat) (x1 : Int32) (M : zH) : Option (Bool × zH) :=
  (zck S a0 5).bind fun u_13 =>
  (F_Ps_readTerm n E S rc a0 x1 M).bind fun q_14 =>
  if q_14.1 = true then
    F_Ps_readSum_b12 n E S rc (a0, x1, 0, q_14.2)
  else
    some (false, q_14.2)
theorem K_Ps_readSum_L12 (d : Nat) (n : Nat) (E : zE) (S : zS) (rc : Nat × Int32 × zH → Option (Bool × zH)) (r12 : Nat × Int32 × Int32 × zH → Option (Bool × zH)) (a0 : Nat) (x1 : Int32) (x2 : Int32) (M : zH) (r : Bool) (M' : zH) (hrc : ∀ (p0 : Nat) (p1 : Int32) (M : zH) (r : Bool) (M' : zH), rc (p0, p1, M) = some (r, M') → zC E (Y_Ps_readSum d) [.ref p0, .int p1] S M (some (.int (bI r)), S, M')) (hr12 : ∀ (a0 : Nat) (x1 : Int32) (x2 : Int32) (M : zH), r12 (a0, x1, x2, M) = some (r, M') → zG E (Y_Ps_readSum (d + 1)) (some (.int (bI r)), S, M') 12 [(0, .ref a0), (1, .int x1), (2, .int x2)] [] S M 0 0) (h : F_Ps_readSum_L12 n E S rc r12 a0 x1 x2 M = some (r, M')) : zG E (Y_Ps_readSum (d + 1)) (some (.int (bI r)), S, M') 12 [(0, .ref a0), (1, .int x1), (2, .int x2)] [] S M 0 0 := by
  unfold F_Ps_readSum_L12 at h
  refine zi_iload_n 2 d_Ps_readSum_12 rfl ?_
  refine zi_sipush 400 d_Ps_readSum_13 rfl ?_
  refine zi_icmp_ge (tgt := 77) d_Ps_readSum_16 rfl (fun c_1 => ?_) (fun c_1 => ?_)
  · rw [if_pos c_1] at h
    refine zi_iconst 1 d_Ps_readSum_77 rfl ?_
    cases h
    exact zo_retB d_Ps_readSum_78 (Nat.le_of_ble_eq_true rfl) (Nat.le_of_ble_eq_true rfl) rfl
  · rw [if_neg c_1] at h
    refine zi_aload_n 0 d_Ps_readSum_19 rfl ?_
    obtain ⟨b_2, eb_2, h⟩ := zbind h
    refine zo_getR 23 zkd_5 1 d_Ps_readSum_20 eb_2 rfl tw_217 rfl ?_
    refine zi_ldcS d_Ps_readSum_23 (zlit_7 E) ?_
    obtain ⟨u_3, eu_3, h⟩ := zbind h
    obtain ⟨q_4, eq_4, h⟩ := zbind h
    refine zo_virt (k' := 0) (n' := 0) 28 [.ref (eK E 7)] [] [.int q_4.1] zkd_8 (zck_s eu_3) (C_Ta_signIn n E S b_2 7 M q_4.1 q_4.2 eq_4) d_Ps_readSum_25 tw_719 tw_716 tw_717 tw_718 tw_5 dd_Ta_signIn (by refine ⟨?_, ?_, ?_, ?_⟩ <;> simp only [yH, yL, yC, yS, Y_Ps_readSum, Y_Ta_signIn] <;> omega) (Nat.le_of_ble_eq_true rfl) rfl rfl rfl rfl ?_
    refine zi_iconst (-1) d_Ps_readSum_28 rfl ?_
    refine zi_icmp_eq (tgt := 77) d_Ps_readSum_29 rfl (fun c_5 => ?_) (fun c_5 => ?_)
    · rw [if_pos c_5] at h
      refine zi_iconst 1 d_Ps_readSum_77 rfl ?_
      cases h
      exact zo_retB d_Ps_readSum_78 (Nat.le_of_ble_eq_true rfl) (Nat.le_of_ble_eq_true rfl) rfl
    · rw [if_neg c_5] at h
      refine zi_aload_n 0 d_Ps_readSum_32 rfl ?_
      refine zo_getR 36 zkd_5 1 d_Ps_readSum_33 eb_2 rfl tw_217 rfl ?_
      refine zi_ldcS d_Ps_readSum_36 (zlit_7 E) ?_
      obtain ⟨q_6, eq_6, h⟩ := zbind h
      refine zo_virt (k' := 0) (n' := 0) 41 [.ref (eK E 7)] [] [.int q_6.1] zkd_8 (zck_s eu_3) (C_Ta_signIn n E S b_2 7 q_4.2 q_6.1 q_6.2 eq_6) d_Ps_readSum_38 tw_719 tw_716 tw_717 tw_718 tw_5 dd_Ta_signIn (by refine ⟨?_, ?_, ?_, ?_⟩ <;> simp only [yH, yL, yC, yS, Y_Ps_readSum, Y_Ta_signIn] <;> omega) (Nat.le_of_ble_eq_true rfl) rfl rfl rfl rfl ?_
      refine zi_istore_n [(3, .int q_6.1), (0, .ref a0), (1, .int x1), (2, .int x2)] d_Ps_readSum_41 (Nat.le_of_ble_eq_true rfl) rfl ?_
      refine zi_aload_n 1 d_Ps_readSum_42 rfl ?_
      refine zo_getR 46 zkd_5 1 d_Ps_readSum_43 eb_2 rfl tw_217 rfl ?_
      obtain ⟨q_7, eq_7, h⟩ := zbind h
      refine zo_virt (k' := 0) (n' := 0) 49 [] [] [] zkd_8 (zck_s eu_3) (C_Ta_advance n E S b_2 q_6.2 q_7 eq_7) d_Ps_readSum_46 tw_575 tw_655 tw_573 tw_574 tw_5 dd_Ta_advance (by refine ⟨?_, ?_, ?_, ?_⟩ <;> simp only [yH, yL, yC, yS, Y_Ps_readSum, Y_Ta_advance] <;> omega) (Nat.le_of_ble_eq_true rfl) rfl rfl rfl rfl ?_
      refine zi_aload_n 1 d_Ps_readSum_49 rfl ?_
      refine zi_iload_n 2 d_Ps_readSum_50 rfl ?_
      obtain ⟨q_8, eq_8, h⟩ := zbind h
      refine zo_virt (k' := 0) (n' := 0) 54 [.int x1] [] [.int (bI q_8.1)] zkd_5 (zgR_s eb_2).1 (C_Ps_readTerm d n E S rc a0 x1 q_7 q_8.1 q_8.2 hrc eq_8) d_Ps_readSum_51 tw_673 tw_670 tw_672 ts_11 tw_6 dd_Ps_readTerm (by refine ⟨?_, ?_, ?_, ?_⟩ <;> simp only [yH, yL, yC, yS, Y_Ps_readSum, Y_Ps_readTerm] <;> omega) (Nat.le_of_ble_eq_true rfl) rfl rfl rfl rfl ?_
      refine zo_ifneB d_Ps_readSum_54 rfl 57 rfl (fun c_9 => ?_) (fun c_9 => ?_)
      · rw [if_pos c_9] at h
        refine zi_aload_n 1 d_Ps_readSum_59 rfl ?_
        obtain ⟨b_10, eb_10, h⟩ := zbind h
        refine zo_getR 63 zkd_5 0 d_Ps_readSum_60 eb_10 rfl tw_215 rfl ?_
        refine zi_iconst 5 d_Ps_readSum_63 rfl ?_
        refine zi_iload_n 0 d_Ps_readSum_64 rfl ?_
        refine zi_iadd d_Ps_readSum_65 ?_
        refine zi_iconst 0 d_Ps_readSum_66 rfl ?_
        obtain ⟨u_11, eu_11, h⟩ := zbind h
        obtain ⟨q_12, eq_12, h⟩ := zbind h
        refine zo_virt (k' := 0) (n' := 0) 70 [.int (5 + q_6.1), .int 0] [] [.int q_12.1] zkd_9 (zck_s eu_11) (C_Te_add n E S b_10 (5 + q_6.1) 0 q_8.2 q_12.1 q_12.2 eq_12) d_Ps_readSum_67 tw_698 tw_695 tw_696 tw_697 tw_7 dd_Te_add (by refine ⟨?_, ?_, ?_, ?_⟩ <;> simp only [yH, yL, yC, yS, Y_Ps_readSum, Y_Te_add] <;> omega) (Nat.le_of_ble_eq_true rfl) rfl rfl rfl rfl ?_
        refine zi_pop d_Ps_readSum_70 rfl ?_
        refine zi_iinc 3 (x2 + 1) [(2, .int (x2 + 1)), (3, .int q_6.1), (0, .ref a0), (1, .int x1)] d_Ps_readSum_71 rfl rfl (Nat.le_of_ble_eq_true rfl) rfl ?_
        refine zi_goto (tgt := 12) d_Ps_readSum_74 rfl ?_
        refine zi_lo [(0, .ref a0), (1, .int x1), (2, .int (x2 + 1))] [2, 3, 0] rfl ?_
        exact hr12 a0 x1 (x2 + 1) q_12.2 h
      · rw [if_neg c_9] at h
        refine zi_iconst 0 d_Ps_readSum_57 rfl ?_
        cases h
        exact zo_retB d_Ps_readSum_58 (Nat.le_of_ble_eq_true rfl) (Nat.le_of_ble_eq_true rfl) rfl
theorem K_Ps_readSum_b12 (d : Nat) (n : Nat) (E : zE) (S : zS) (rc : Nat × Int32 × zH → Option (Bool × zH)) (a0 : Nat) (x1 : Int32) (x2 : Int32) (M : zH) (r : Bool) (M' : zH) (hrc : ∀ (p0 : Nat) (p1 : Int32) (M : zH) (r : Bool) (M' : zH), rc (p0, p1, M) = some (r, M') → zC E (Y_Ps_readSum d) [.ref p0, .int p1] S M (some (.int (bI r)), S, M'))  (h : F_Ps_readSum_b12 n E S rc (a0, x1, x2, M) = some (r, M')) : zG E (Y_Ps_readSum (d + 1)) (some (.int (bI r)), S, M') 12 [(0, .ref a0), (1, .int x1), (2, .int x2)] [] S M 0 0 := by
  have key : ∀ (k : Nat) (a0 : Nat) (x1 : Int32) (x2 : Int32) (M : zH), zfix (fun r12 s => F_Ps_readSum_L12 n E S rc r12 s.1 s.2.1 s.2.2.1 s.2.2.2) k (a0, x1, x2, M) = some (r, M') → zG E (Y_Ps_readSum (d + 1)) (some (.int (bI r)), S, M') 12 [(0, .ref a0), (1, .int x1), (2, .int x2)] [] S M 0 0 := by
    intro k
    induction k with
    | zero => intro a0 x1 x2 M h; cases h
    | succ k ih => intro a0 x1 x2 M h; exact K_Ps_readSum_L12 d n E S rc _ a0 x1 x2 M r M' hrc  (fun a0 x1 x2 M h => ih a0 x1 x2 M h) h
  exact key n a0 x1 x2 M h
theorem K_Ps_readSum (d : Nat) (n : Nat) (E : zE) (S : zS) (rc : Nat × Int32 × zH → Option (Bool × zH)) (a0 : Nat) (x1 : Int32) (M : zH) (r : Bool) (M' : zH) (hrc : ∀ (p0 : Nat) (p1 : Int32) (M : zH) (r : Bool) (M' : zH), rc (p0, p1, M) = some (r, M') → zC E (Y_Ps_readSum d) [.ref p0, .int p1] S M (some (.int (bI r)), S, M'))  (h : F_Ps_readSum n E S rc a0 x1 M = some (r, M')) : zG E (Y_Ps_readSum (d + 1)) (some (.int (bI r)), S, M') 0 [(0, .ref a0), (1, .int x1)] [] S M 0 0 := by
  unfold F_Ps_readSum at h
  refine zi_aload_n 0 d_Ps_readSum_0 rfl ?_
  refine zi_iload_n 1 d_Ps_readSum_1 rfl ?_
  obtain ⟨u_13, eu_13, h⟩ := zbind h
  obtain ⟨q_14, eq_14, h⟩ := zbind h
  refine zo_virt (k' := 0) (n' := 0) 5 [.int x1] [] [.int (bI q_14.1)] zkd_5 (zck_s eu_13) (C_Ps_readTerm d n E S rc a0 x1 M q_14.1 q_14.2 hrc eq_14) d_Ps_readSum_2 tw_673 tw_670 tw_672 ts_11 tw_6 dd_Ps_readTerm (by refine ⟨?_, ?_, ?_, ?_⟩ <;> simp only [yH, yL, yC, yS, Y_Ps_readSum, Y_Ps_readTerm] <;> omega) (Nat.le_of_ble_eq_true rfl) rfl rfl rfl rfl ?_
  refine zo_ifneB d_Ps_readSum_5 rfl 8 rfl (fun c_15 => ?_) (fun c_15 => ?_)
  · rw [if_pos c_15] at h
    refine zi_iconst 0 d_Ps_readSum_10 rfl ?_
    refine zi_istore_n [(2, .int 0), (0, .ref a0), (1, .int x1)] d_Ps_readSum_11 (Nat.le_of_ble_eq_true rfl) rfl ?_
    refine zi_lo [(0, .ref a0), (1, .int x1), (2, .int 0)] [1, 2, 0] rfl ?_
    exact K_Ps_readSum_b12 d n E S rc a0 x1 0 q_14.2 r M' hrc  h
  · rw [if_neg c_15] at h
    refine zi_iconst 0 d_Ps_readSum_8 rfl ?_
    cases h
    exact zo_retB d_Ps_readSum_9 (Nat.le_of_ble_eq_true rfl) (Nat.le_of_ble_eq_true rfl) rfl
theorem C_Ps_readSum (d : Nat) (n : Nat) (E : zE) (S : zS) (rc : Nat × Int32 × zH → Option (Bool × zH)) (a0 : Nat) (x1 : Int32) (M : zH) (r : Bool) (M' : zH) (hrc : ∀ (p0 : Nat) (p1 : Int32) (M : zH) (r : Bool) (M' : zH), rc (p0, p1, M) = some (r, M') → zC E (Y_Ps_readSum d) [.ref p0, .int p1] S M (some (.int (bI r)), S, M')) (h : F_Ps_readSum n E S rc a0 x1 M = some (r, M')) : zC E (Y_Ps_readSum (d + 1)) [.ref a0, .int x1] S M (some (.int (bI r)), S, M') :=
  zC.of (Or.inl (show plainName "NightColander$Parser" = true by decide)) (Nat.le_of_ble_eq_true rfl) (bI_nar r) (K_Ps_readSum d n E S rc a0 x1 M r M' hrc h)
def F_Ps_readSum_D (n : Nat) (E : zE) (S : zS) : Nat → (Nat × Int32 × zH) → Option (Bool × zH)
  | 0 => fun _ => none
  | d + 1 => fun s => F_Ps_readSum n E S (F_Ps_readSum_D n E S d) s.1 s.2.1 s.2.2
theorem C_Ps_readSum_D (n : Nat) (E : zE) (S : zS) (d : Nat) : ∀ (a0 : Nat) (x1 : Int32) (M : zH) (r : Bool) (M' : zH) (h : F_Ps_readSum_D n E S d (a0, x1, M) = some (r, M')), zC E (Y_Ps_readSum d) [.ref a0, .int x1] S M (some (.int (bI r)), S, M') := by
  induction d with
  | zero => intro a0 x1 M r M' h; cases h
  | succ d ih => intro a0 x1 M r M' h; exact C_Ps_readSum d n E S _ a0 x1 M r M' (fun a0 x1 M r M' h => ih a0 x1 M r M' h) h
theorem d_Te_mark_0 : decode (yB Y_Te_mark) 0 = .ok (.aload_n 0, 1) := by decide +kernel
theorem d_Te_mark_1 : decode (yB Y_Te_mark) 1 = .ok (.getfield 13, 3) := by decide +kernel
theorem d_Te_mark_4 : decode (yB Y_Te_mark) 4 = .ok (.bipush 12, 2) := by decide +kernel
theorem d_Te_mark_6 : decode (yB Y_Te_mark) 6 = .ok (.if_icmp .ge 37, 3) := by decide +kernel
theorem d_Te_mark_9 : decode (yB Y_Te_mark) 9 = .ok (.iload_n 1, 1) := by decide +kernel
theorem d_Te_mark_10 : decode (yB Y_Te_mark) 10 = .ok (.iconst 0, 1) := by decide +kernel
theorem d_Te_mark_11 : decode (yB Y_Te_mark) 11 = .ok (.invokestatic 32, 3) := by decide +kernel
theorem d_Te_mark_14 : decode (yB Y_Te_mark) 14 = .ok (.istore_n 2, 1) := by decide +kernel
theorem d_Te_mark_15 : decode (yB Y_Te_mark) 15 = .ok (.iload_n 2, 1) := by decide +kernel
theorem d_Te_mark_16 : decode (yB Y_Te_mark) 16 = .ok (.iconst 4, 1) := by decide +kernel
theorem d_Te_mark_17 : decode (yB Y_Te_mark) 17 = .ok (.if_icmp .ge 26, 3) := by decide +kernel
theorem d_Te_mark_20 : decode (yB Y_Te_mark) 20 = .ok (.aload_n 0, 1) := by decide +kernel
theorem d_Te_mark_21 : decode (yB Y_Te_mark) 21 = .ok (.getfield 29, 3) := by decide +kernel
theorem d_Te_mark_24 : decode (yB Y_Te_mark) 24 = .ok (.aload_n 0, 1) := by decide +kernel
theorem d_Te_mark_25 : decode (yB Y_Te_mark) 25 = .ok (.getfield 13, 3) := by decide +kernel
theorem d_Te_mark_28 : decode (yB Y_Te_mark) 28 = .ok (.iconst 4, 1) := by decide +kernel
theorem d_Te_mark_29 : decode (yB Y_Te_mark) 29 = .ok (.imul, 1) := by decide +kernel
theorem d_Te_mark_30 : decode (yB Y_Te_mark) 30 = .ok (.iload_n 2, 1) := by decide +kernel
theorem d_Te_mark_31 : decode (yB Y_Te_mark) 31 = .ok (.iadd, 1) := by decide +kernel
theorem d_Te_mark_32 : decode (yB Y_Te_mark) 32 = .ok (.aload_n 0, 1) := by decide +kernel
theorem d_Te_mark_33 : decode (yB Y_Te_mark) 33 = .ok (.getfield 7, 3) := by decide +kernel
theorem d_Te_mark_36 : decode (yB Y_Te_mark) 36 = .ok (.iastore, 1) := by decide +kernel
theorem d_Te_mark_37 : decode (yB Y_Te_mark) 37 = .ok (.iinc 2 1, 3) := by decide +kernel
theorem d_Te_mark_40 : decode (yB Y_Te_mark) 40 = .ok (.goto (-25), 3) := by decide +kernel
theorem d_Te_mark_43 : decode (yB Y_Te_mark) 43 = .ok (.return_, 1) := by decide +kernel
def F_Te_mark_L15 (n : Nat) (E : zE) (S : zS) (r15 : Nat × Int32 × zH → Option (zH)) (a0 : Nat) (x2 : Int32) (M : zH) : Option (zH) :=
  if 4 ≤ x2 then
    some (M)
  else
    (zgR S a0 9 4).bind fun b_2 =>
    (zgI S M a0 9 6).bind fun v_3 =>
    (zgI S M a0 9 5).bind fun v_4 =>
    (zstI S M b_2 ((v_3 * 4) + x2) v_4).bind fun m_5 =>
    r15 (a0, x2 + 1, m_5)
def F_Te_mark_b15 (n : Nat) (E : zE) (S : zS) : Nat × Int32 × zH → Option (zH) := zfix (fun r15 s => F_Te_mark_L15 n E S r15 s.1 s.2.1 s.2.2) n
def F_Te_mark (n : Nat) (E : zE) (S : zS) (a0 : Nat) (x1 : Int32) (M : zH) : Option (zH) :=
  (zgI S M a0 9 6).bind fun v_6 =>
  if 12 ≤ v_6 then
    some (M)
  else
    (F_Jm_max n E S x1 0 M).bind fun q_8 =>
    F_Te_mark_b15 n E S (a0, q_8.1, q_8.2)
theorem K_Te_mark_L15 (n : Nat) (E : zE) (S : zS) (r15 : Nat × Int32 × zH → Option (zH)) (a0 : Nat) (x2 : Int32) (M : zH) (M' : zH) (hr15 : ∀ (a0 : Nat) (x2 : Int32) (M : zH), r15 (a0, x2, M) = some M' → zG E Y_Te_mark (none, S, M') 15 [(0, .ref a0), (2, .int x2)] [] S M 0 0) (h : F_Te_mark_L15 n E S r15 a0 x2 M = some M') : zG E Y_Te_mark (none, S, M') 15 [(0, .ref a0), (2, .int x2)] [] S M 0 0 := by
  unfold F_Te_mark_L15 at h
  refine zi_iload_n 1 d_Te_mark_15 rfl ?_
  refine zi_iconst 4 d_Te_mark_16 rfl ?_
  refine zi_icmp_ge (tgt := 43) d_Te_mark_17 rfl (fun c_1 => ?_) (fun c_1 => ?_)
  · rw [if_pos c_1] at h
    cases h
    exact zo_ret d_Te_mark_43 (Nat.le_of_ble_eq_true rfl) (Nat.le_of_ble_eq_true rfl) rfl
  · rw [if_neg c_1] at h
    refine zi_aload_n 0 d_Te_mark_20 rfl ?_
    obtain ⟨b_2, eb_2, h⟩ := zbind h
    refine zo_getR 24 zkd_9 4 d_Te_mark_21 eb_2 rfl tw_194 rfl ?_
    refine zi_aload_n 0 d_Te_mark_24 rfl ?_
    obtain ⟨v_3, ev_3, h⟩ := zbind h
    refine zo_getI 28 zkd_9 6 d_Te_mark_25 ev_3 rfl tw_197 rfl ?_
    refine zi_iconst 4 d_Te_mark_28 rfl ?_
    refine zi_imul d_Te_mark_29 ?_
    refine zi_iload_n 1 d_Te_mark_30 rfl ?_
    refine zi_iadd d_Te_mark_31 ?_
    refine zi_aload_n 0 d_Te_mark_32 rfl ?_
    obtain ⟨v_4, ev_4, h⟩ := zbind h
    refine zo_getI 36 zkd_9 5 d_Te_mark_33 ev_4 rfl tw_195 rfl ?_
    obtain ⟨m_5, em_5, h⟩ := zbind h
    refine zo_iast 37 d_Te_mark_36 em_5 rfl ?_
    refine zi_iinc 1 (x2 + 1) [(2, .int (x2 + 1)), (0, .ref a0)] d_Te_mark_37 rfl rfl (by decide) rfl ?_
    refine zi_goto (tgt := 15) d_Te_mark_40 rfl ?_
    refine zi_lo [(0, .ref a0), (2, .int (x2 + 1))] [1, 0] rfl ?_
    exact hr15 a0 (x2 + 1) m_5 h
theorem K_Te_mark_b15 (n : Nat) (E : zE) (S : zS) (a0 : Nat) (x2 : Int32) (M : zH) (M' : zH)  (h : F_Te_mark_b15 n E S (a0, x2, M) = some M') : zG E Y_Te_mark (none, S, M') 15 [(0, .ref a0), (2, .int x2)] [] S M 0 0 := by
  have key : ∀ (k : Nat) (a0 : Nat) (x2 : Int32) (M : zH), zfix (fun r15 s => F_Te_mark_L15 n E S r15 s.1 s.2.1 s.2.2) k (a0, x2, M) = some M' → zG E Y_Te_mark (none, S, M') 15 [(0, .ref a0), (2, .int x2)] [] S M 0 0 := by
    intro k
    induction k with
    | zero => intro a0 x2 M h; cases h
    | succ k ih => intro a0 x2 M h; exact K_Te_mark_L15 n E S _ a0 x2 M M'  (fun a0 x2 M h => ih a0 x2 M h) h
  exact key n a0 x2 M h
theorem K_Te_mark (n : Nat) (E : zE) (S : zS) (a0 : Nat) (x1 : Int32) (M : zH) (M' : zH)  (h : F_Te_mark n E S a0 x1 M = some M') : zG E Y_Te_mark (none, S, M') 0 [(0, .ref a0), (1, .int x1)] [] S M 0 0 := by
  unfold F_Te_mark at h
  refine zi_aload_n 0 d_Te_mark_0 rfl ?_
  obtain ⟨v_6, ev_6, h⟩ := zbind h
  refine zo_getI 4 zkd_9 6 d_Te_mark_1 ev_6 rfl tw_197 rfl ?_
  refine zi_bipush 12 d_Te_mark_4 rfl ?_
  refine zi_icmp_ge (tgt := 43) d_Te_mark_6 rfl (fun c_7 => ?_) (fun c_7 => ?_)
  · rw [if_pos c_7] at h
    cases h
    exact zo_ret d_Te_mark_43 (Nat.le_of_ble_eq_true rfl) (Nat.le_of_ble_eq_true rfl) rfl
  · rw [if_neg c_7] at h
    refine zi_iload_n 1 d_Te_mark_9 rfl ?_
    refine zi_iconst 0 d_Te_mark_10 rfl ?_
    obtain ⟨q_8, eq_8, h⟩ := zbind h
    refine zo_stat (k' := 0) (n' := 0) 14 [.int x1, .int 0] [] [.int q_8.1] (C_Jm_max n E S x1 0 M q_8.1 q_8.2 eq_8) d_Te_mark_11 tw_440 tw_654 tw_439 tw_14 dd_Jm_max ⟨Nat.le_of_ble_eq_true rfl, Nat.le_of_ble_eq_true rfl, Nat.le_of_ble_eq_true rfl, Nat.le_of_ble_eq_true rfl⟩ (Nat.le_of_ble_eq_true rfl) rfl rfl rfl rfl ?_
    refine zi_istore_n [(2, .int q_8.1), (0, .ref a0), (1, .int x1)] d_Te_mark_14 (by decide) rfl ?_
    refine zi_lo [(0, .ref a0), (2, .int q_8.1)] [1, 0] rfl ?_
    exact K_Te_mark_b15 n E S a0 q_8.1 q_8.2 M'  h
theorem C_Te_mark (n : Nat) (E : zE) (S : zS) (a0 : Nat) (x1 : Int32) (M : zH) (M' : zH) (h : F_Te_mark n E S a0 x1 M = some M') : zC E Y_Te_mark [.ref a0, .int x1] S M (none, S, M') :=
  zC.of (Or.inl (show plainName "NightColander$Text" = true by decide)) (Nat.le_of_ble_eq_true rfl) (trivial) (K_Te_mark n E S a0 x1 M M' h)
theorem d_Ps_readLaw_0 : decode (yB Y_Ps_readLaw) 0 = .ok (.iload_n 1, 1) := by decide +kernel
theorem d_Ps_readLaw_1 : decode (yB Y_Ps_readLaw) 1 = .ok (.iconst 3, 1) := by decide +kernel
theorem d_Ps_readLaw_2 : decode (yB Y_Ps_readLaw) 2 = .ok (.if_icmp .eq 13, 3) := by decide +kernel
theorem d_Ps_readLaw_5 : decode (yB Y_Ps_readLaw) 5 = .ok (.aload_n 0, 1) := by decide +kernel
theorem d_Ps_readLaw_6 : decode (yB Y_Ps_readLaw) 6 = .ok (.iconst 0, 1) := by decide +kernel
theorem d_Ps_readLaw_7 : decode (yB Y_Ps_readLaw) 7 = .ok (.invokevirtual 87, 3) := by decide +kernel
theorem d_Ps_readLaw_10 : decode (yB Y_Ps_readLaw) 10 = .ok (.ifCond .ne 5, 3) := by decide +kernel
theorem d_Ps_readLaw_13 : decode (yB Y_Ps_readLaw) 13 = .ok (.iconst 0, 1) := by decide +kernel
theorem d_Ps_readLaw_14 : decode (yB Y_Ps_readLaw) 14 = .ok (.ireturn, 1) := by decide +kernel
theorem d_Ps_readLaw_15 : decode (yB Y_Ps_readLaw) 15 = .ok (.aload_n 0, 1) := by decide +kernel
theorem d_Ps_readLaw_16 : decode (yB Y_Ps_readLaw) 16 = .ok (.getfield 12, 3) := by decide +kernel
theorem d_Ps_readLaw_19 : decode (yB Y_Ps_readLaw) 19 = .ok (.iconst 1, 1) := by decide +kernel
theorem d_Ps_readLaw_20 : decode (yB Y_Ps_readLaw) 20 = .ok (.invokevirtual 90, 3) := by decide +kernel
theorem d_Ps_readLaw_23 : decode (yB Y_Ps_readLaw) 23 = .ok (.iconst 1, 1) := by decide +kernel
theorem d_Ps_readLaw_24 : decode (yB Y_Ps_readLaw) 24 = .ok (.ireturn, 1) := by decide +kernel
def F_Ps_readLaw_b15 (n : Nat) (E : zE) (S : zS) (a0 : Nat) (M : zH) : Option (Bool × zH) :=
  (zgR S a0 5 0).bind fun b_1 =>
  (zck S b_1 9).bind fun u_2 =>
  (F_Te_mark n E S b_1 1 M).bind fun q_3 =>
  some (true, q_3)
def F_Ps_readLaw (n : Nat) (E : zE) (S : zS) (a0 : Nat) (x1 : Int32) (M : zH) : Option (Bool × zH) :=
  if x1 = 3 then
    F_Ps_readLaw_b15 n E S a0 M
  else
    (zck S a0 5).bind fun u_5 =>
    (F_Ps_readSum_D n E S 10 (a0, 0, M)).bind fun q_6 =>
    if q_6.1 = true then
      F_Ps_readLaw_b15 n E S a0 q_6.2
    else
      some (false, q_6.2)
theorem K_Ps_readLaw_b15 (n : Nat) (E : zE) (S : zS) (a0 : Nat) (M : zH) (r : Bool) (M' : zH)  (h : F_Ps_readLaw_b15 n E S a0 M = some (r, M')) : zG E Y_Ps_readLaw (some (.int (bI r)), S, M') 15 [(0, .ref a0)] [] S M 0 0 := by
  unfold F_Ps_readLaw_b15 at h
  refine zi_aload_n 0 d_Ps_readLaw_15 rfl ?_
  obtain ⟨b_1, eb_1, h⟩ := zbind h
  refine zo_getR 19 zkd_5 0 d_Ps_readLaw_16 eb_1 rfl tw_215 rfl ?_
  refine zi_iconst 1 d_Ps_readLaw_19 rfl ?_
  obtain ⟨u_2, eu_2, h⟩ := zbind h
  obtain ⟨q_3, eq_3, h⟩ := zbind h
  refine zo_virt (k' := 0) (n' := 0) 23 [.int 1] [] [] zkd_9 (zck_s eu_2) (C_Te_mark n E S b_1 1 M q_3 eq_3) d_Ps_readLaw_20 tw_653 tw_776 tw_651 tw_652 tw_7 dd_Te_mark ⟨Nat.le_of_ble_eq_true rfl, Nat.le_of_ble_eq_true rfl, Nat.le_of_ble_eq_true rfl, Nat.le_of_ble_eq_true rfl⟩ (Nat.le_of_ble_eq_true rfl) rfl rfl rfl rfl ?_
  refine zi_iconst 1 d_Ps_readLaw_23 rfl ?_
  cases h
  exact zo_retB d_Ps_readLaw_24 (Nat.le_of_ble_eq_true rfl) (Nat.le_of_ble_eq_true rfl) rfl
theorem K_Ps_readLaw (n : Nat) (E : zE) (S : zS) (a0 : Nat) (x1 : Int32) (M : zH) (r : Bool) (M' : zH)  (h : F_Ps_readLaw n E S a0 x1 M = some (r, M')) : zG E Y_Ps_readLaw (some (.int (bI r)), S, M') 0 [(0, .ref a0), (1, .int x1)] [] S M 0 0 := by
  unfold F_Ps_readLaw at h
  refine zi_iload_n 1 d_Ps_readLaw_0 rfl ?_
  refine zi_iconst 3 d_Ps_readLaw_1 rfl ?_
  refine zi_icmp_eq (tgt := 15) d_Ps_readLaw_2 rfl (fun c_4 => ?_) (fun c_4 => ?_)
  · rw [if_pos c_4] at h
    refine zi_lo [(0, .ref a0)] [0] rfl ?_
    exact K_Ps_readLaw_b15 n E S a0 M r M'  h
  · rw [if_neg c_4] at h
    refine zi_aload_n 0 d_Ps_readLaw_5 rfl ?_
    refine zi_iconst 0 d_Ps_readLaw_6 rfl ?_
    obtain ⟨u_5, eu_5, h⟩ := zbind h
    obtain ⟨q_6, eq_6, h⟩ := zbind h
    refine zo_virt (k' := 0) (n' := 0) 10 [.int 0] [] [.int (bI q_6.1)] zkd_5 (zck_s eu_5) (C_Ps_readSum_D n E S 10 a0 0 M q_6.1 q_6.2 eq_6) d_Ps_readLaw_7 tw_669 tw_666 tw_668 ts_10 tw_6 dd_Ps_readSum ⟨Nat.le_of_ble_eq_true rfl, Nat.le_of_ble_eq_true rfl, Nat.le_of_ble_eq_true rfl, Nat.le_of_ble_eq_true rfl⟩ (Nat.le_of_ble_eq_true rfl) rfl rfl rfl rfl ?_
    refine zo_ifneB d_Ps_readLaw_10 rfl 13 rfl (fun c_7 => ?_) (fun c_7 => ?_)
    · rw [if_pos c_7] at h
      refine zi_lo [(0, .ref a0)] [0] rfl ?_
      exact K_Ps_readLaw_b15 n E S a0 q_6.2 r M'  h
    · rw [if_neg c_7] at h
      refine zi_iconst 0 d_Ps_readLaw_13 rfl ?_
      cases h
      exact zo_retB d_Ps_readLaw_14 (Nat.le_of_ble_eq_true rfl) (Nat.le_of_ble_eq_true rfl) rfl
theorem C_Ps_readLaw (n : Nat) (E : zE) (S : zS) (a0 : Nat) (x1 : Int32) (M : zH) (r : Bool) (M' : zH) (h : F_Ps_readLaw n E S a0 x1 M = some (r, M')) : zC E Y_Ps_readLaw [.ref a0, .int x1] S M (some (.int (bI r)), S, M') :=
  zC.of (Or.inl (show plainName "NightColander$Parser" = true by decide)) (Nat.le_of_ble_eq_true rfl) (bI_nar r) (K_Ps_readLaw n E S a0 x1 M r M' h)
theorem d_Ta_atWord_0 : decode (yB Y_Ta_atWord) 0 = .ok (.aload_n 0, 1) := by decide +kernel
theorem d_Ta_atWord_1 : decode (yB Y_Ta_atWord) 1 = .ok (.getfield 19, 3) := by decide +kernel
theorem d_Ta_atWord_4 : decode (yB Y_Ta_atWord) 4 = .ok (.iconst 1, 1) := by decide +kernel
theorem d_Ta_atWord_5 : decode (yB Y_Ta_atWord) 5 = .ok (.if_icmp .ne 20, 3) := by decide +kernel
theorem d_Ta_atWord_8 : decode (yB Y_Ta_atWord) 8 = .ok (.aload_n 0, 1) := by decide +kernel
theorem d_Ta_atWord_9 : decode (yB Y_Ta_atWord) 9 = .ok (.aload_n 1, 1) := by decide +kernel
theorem d_Ta_atWord_10 : decode (yB Y_Ta_atWord) 10 = .ok (.iconst 0, 1) := by decide +kernel
theorem d_Ta_atWord_11 : decode (yB Y_Ta_atWord) 11 = .ok (.aload_n 1, 1) := by decide +kernel
theorem d_Ta_atWord_12 : decode (yB Y_Ta_atWord) 12 = .ok (.invokevirtual 51, 3) := by decide +kernel
theorem d_Ta_atWord_15 : decode (yB Y_Ta_atWord) 15 = .ok (.invokevirtual 56, 3) := by decide +kernel
theorem d_Ta_atWord_18 : decode (yB Y_Ta_atWord) 18 = .ok (.ifCond .eq 7, 3) := by decide +kernel
theorem d_Ta_atWord_21 : decode (yB Y_Ta_atWord) 21 = .ok (.iconst 1, 1) := by decide +kernel
theorem d_Ta_atWord_22 : decode (yB Y_Ta_atWord) 22 = .ok (.goto 4, 3) := by decide +kernel
theorem d_Ta_atWord_25 : decode (yB Y_Ta_atWord) 25 = .ok (.iconst 0, 1) := by decide +kernel
theorem d_Ta_atWord_26 : decode (yB Y_Ta_atWord) 26 = .ok (.ireturn, 1) := by decide +kernel
def F_Ta_atWord (n : Nat) (E : zE) (S : zS) (a0 : Nat) (i1 : Nat) (M : zH) : Option (Bool × zH) :=
  (zgI S M a0 8 2).bind fun v_1 =>
  if v_1 = 1 then
    (zli i1).bind fun u_3 =>
    (F_Js_length n E S i1 M).bind fun q_4 =>
    (F_Ta_isSame n E S a0 i1 0 q_4.1 q_4.2).bind fun q_5 =>
    if q_5.1 = true then
      some (true, q_5.2)
    else
      some (false, q_5.2)
  else
    some (false, M)
theorem K_Ta_atWord (n : Nat) (E : zE) (S : zS) (a0 : Nat) (i1 : Nat) (M : zH) (r : Bool) (M' : zH)  (h : F_Ta_atWord n E S a0 i1 M = some (r, M')) : zG E Y_Ta_atWord (some (.int (bI r)), S, M') 0 [(0, .ref a0), (1, .ref (eK E i1))] [] S M 0 0 := by
  unfold F_Ta_atWord at h
  refine zi_aload_n 0 d_Ta_atWord_0 rfl ?_
  obtain ⟨v_1, ev_1, h⟩ := zbind h
  refine zo_getI 4 zkd_8 2 d_Ta_atWord_1 ev_1 rfl tw_155 rfl ?_
  refine zi_iconst 1 d_Ta_atWord_4 rfl ?_
  refine zi_icmp_ne (tgt := 25) d_Ta_atWord_5 rfl (fun c_2 => ?_) (fun c_2 => ?_)
  · rw [if_neg c_2] at h
    refine zi_iconst 0 d_Ta_atWord_25 rfl ?_
    cases h
    exact zo_retB d_Ta_atWord_26 (Nat.le_of_ble_eq_true rfl) (Nat.le_of_ble_eq_true rfl) rfl
  · rw [if_pos c_2] at h
    refine zi_aload_n 0 d_Ta_atWord_8 rfl ?_
    refine zi_aload_n 1 d_Ta_atWord_9 rfl ?_
    refine zi_iconst 0 d_Ta_atWord_10 rfl ?_
    refine zi_aload_n 1 d_Ta_atWord_11 rfl ?_
    obtain ⟨u_3, eu_3, h⟩ := zbind h
    obtain ⟨q_4, eq_4, h⟩ := zbind h
    refine zo_virtS (k' := 0) (n' := 0) 15 [] [.int 0, .ref (eK E i1), .ref a0] [.int q_4.1, .int 0, .ref (eK E i1), .ref a0] (zli_s eu_3) (C_Js_length n E S i1 M q_4.1 q_4.2 eq_4) d_Ta_atWord_12 tw_597 tw_594 tw_595 tw_596 tw_15 dd_Js_length ⟨Nat.le_of_ble_eq_true rfl, Nat.le_of_ble_eq_true rfl, Nat.le_of_ble_eq_true rfl, Nat.le_of_ble_eq_true rfl⟩ (Nat.le_of_ble_eq_true rfl) rfl rfl rfl rfl ?_
    obtain ⟨q_5, eq_5, h⟩ := zbind h
    refine zo_virt (k' := 0) (n' := 0) 18 [.ref (eK E i1), .int 0, .int q_4.1] [] [.int (bI q_5.1)] zkd_8 (zgI_s ev_1).1 (C_Ta_isSame n E S a0 i1 0 q_4.1 q_4.2 q_5.1 q_5.2 eq_5) d_Ta_atWord_15 tw_645 tw_642 tw_644 ts_7 tw_5 dd_Ta_isSame ⟨Nat.le_of_ble_eq_true rfl, Nat.le_of_ble_eq_true rfl, Nat.le_of_ble_eq_true rfl, Nat.le_of_ble_eq_true rfl⟩ (Nat.le_of_ble_eq_true rfl) rfl rfl rfl rfl ?_
    refine zo_ifeqB d_Ta_atWord_18 rfl 21 rfl (fun c_6 => ?_) (fun c_6 => ?_)
    · rw [if_neg c_6] at h
      refine zi_iconst 0 d_Ta_atWord_25 rfl ?_
      cases h
      exact zo_retB d_Ta_atWord_26 (Nat.le_of_ble_eq_true rfl) (Nat.le_of_ble_eq_true rfl) rfl
    · rw [if_pos c_6] at h
      refine zi_iconst 1 d_Ta_atWord_21 rfl ?_
      refine zi_goto (tgt := 26) d_Ta_atWord_22 rfl ?_
      cases h
      exact zo_retB d_Ta_atWord_26 (Nat.le_of_ble_eq_true rfl) (Nat.le_of_ble_eq_true rfl) rfl
theorem C_Ta_atWord (n : Nat) (E : zE) (S : zS) (a0 : Nat) (i1 : Nat) (M : zH) (r : Bool) (M' : zH) (h : F_Ta_atWord n E S a0 i1 M = some (r, M')) : zC E Y_Ta_atWord [.ref a0, .ref (eK E i1)] S M (some (.int (bI r)), S, M') :=
  zC.of (Or.inl (show plainName "NightColander$Tape" = true by decide)) (Nat.le_of_ble_eq_true rfl) (bI_nar r) (K_Ta_atWord n E S a0 i1 M r M' h)
theorem d_Ps_readTwoSums_0 : decode (yB Y_Ps_readTwoSums) 0 = .ok (.aload_n 0, 1) := by decide +kernel
theorem d_Ps_readTwoSums_1 : decode (yB Y_Ps_readTwoSums) 1 = .ok (.iconst 0, 1) := by decide +kernel
theorem d_Ps_readTwoSums_2 : decode (yB Y_Ps_readTwoSums) 2 = .ok (.invokevirtual 87, 3) := by decide +kernel
theorem d_Ps_readTwoSums_5 : decode (yB Y_Ps_readTwoSums) 5 = .ok (.ifCond .ne 5, 3) := by decide +kernel
theorem d_Ps_readTwoSums_8 : decode (yB Y_Ps_readTwoSums) 8 = .ok (.iconst 0, 1) := by decide +kernel
theorem d_Ps_readTwoSums_9 : decode (yB Y_Ps_readTwoSums) 9 = .ok (.ireturn, 1) := by decide +kernel
theorem d_Ps_readTwoSums_10 : decode (yB Y_Ps_readTwoSums) 10 = .ok (.aload_n 0, 1) := by decide +kernel
theorem d_Ps_readTwoSums_11 : decode (yB Y_Ps_readTwoSums) 11 = .ok (.getfield 12, 3) := by decide +kernel
theorem d_Ps_readTwoSums_14 : decode (yB Y_Ps_readTwoSums) 14 = .ok (.iconst 1, 1) := by decide +kernel
theorem d_Ps_readTwoSums_15 : decode (yB Y_Ps_readTwoSums) 15 = .ok (.invokevirtual 90, 3) := by decide +kernel
theorem d_Ps_readTwoSums_18 : decode (yB Y_Ps_readTwoSums) 18 = .ok (.aload_n 0, 1) := by decide +kernel
theorem d_Ps_readTwoSums_19 : decode (yB Y_Ps_readTwoSums) 19 = .ok (.getfield 26, 3) := by decide +kernel
theorem d_Ps_readTwoSums_22 : decode (yB Y_Ps_readTwoSums) 22 = .ok (.aload_n 1, 1) := by decide +kernel
theorem d_Ps_readTwoSums_23 : decode (yB Y_Ps_readTwoSums) 23 = .ok (.invokevirtual 77, 3) := by decide +kernel
theorem d_Ps_readTwoSums_26 : decode (yB Y_Ps_readTwoSums) 26 = .ok (.ifCond .ne 5, 3) := by decide +kernel
theorem d_Ps_readTwoSums_29 : decode (yB Y_Ps_readTwoSums) 29 = .ok (.iconst 0, 1) := by decide +kernel
theorem d_Ps_readTwoSums_30 : decode (yB Y_Ps_readTwoSums) 30 = .ok (.ireturn, 1) := by decide +kernel
theorem d_Ps_readTwoSums_31 : decode (yB Y_Ps_readTwoSums) 31 = .ok (.aload_n 0, 1) := by decide +kernel
theorem d_Ps_readTwoSums_32 : decode (yB Y_Ps_readTwoSums) 32 = .ok (.getfield 26, 3) := by decide +kernel
theorem d_Ps_readTwoSums_35 : decode (yB Y_Ps_readTwoSums) 35 = .ok (.invokevirtual 53, 3) := by decide +kernel
theorem d_Ps_readTwoSums_38 : decode (yB Y_Ps_readTwoSums) 38 = .ok (.aload_n 0, 1) := by decide +kernel
theorem d_Ps_readTwoSums_39 : decode (yB Y_Ps_readTwoSums) 39 = .ok (.iconst 0, 1) := by decide +kernel
theorem d_Ps_readTwoSums_40 : decode (yB Y_Ps_readTwoSums) 40 = .ok (.invokevirtual 87, 3) := by decide +kernel
theorem d_Ps_readTwoSums_43 : decode (yB Y_Ps_readTwoSums) 43 = .ok (.ifCond .ne 5, 3) := by decide +kernel
theorem d_Ps_readTwoSums_46 : decode (yB Y_Ps_readTwoSums) 46 = .ok (.iconst 0, 1) := by decide +kernel
theorem d_Ps_readTwoSums_47 : decode (yB Y_Ps_readTwoSums) 47 = .ok (.ireturn, 1) := by decide +kernel
theorem d_Ps_readTwoSums_48 : decode (yB Y_Ps_readTwoSums) 48 = .ok (.aload_n 0, 1) := by decide +kernel
theorem d_Ps_readTwoSums_49 : decode (yB Y_Ps_readTwoSums) 49 = .ok (.getfield 12, 3) := by decide +kernel
theorem d_Ps_readTwoSums_52 : decode (yB Y_Ps_readTwoSums) 52 = .ok (.iconst 2, 1) := by decide +kernel
theorem d_Ps_readTwoSums_53 : decode (yB Y_Ps_readTwoSums) 53 = .ok (.invokevirtual 90, 3) := by decide +kernel
theorem d_Ps_readTwoSums_56 : decode (yB Y_Ps_readTwoSums) 56 = .ok (.iconst 1, 1) := by decide +kernel
theorem d_Ps_readTwoSums_57 : decode (yB Y_Ps_readTwoSums) 57 = .ok (.ireturn, 1) := by decide +kernel
def F_Ps_readTwoSums (n : Nat) (E : zE) (S : zS) (a0 : Nat) (i1 : Nat) (M : zH) : Option (Bool × zH) :=
  (zck S a0 5).bind fun u_1 =>
  (F_Ps_readSum_D n E S 10 (a0, 0, M)).bind fun q_2 =>
  if q_2.1 = true then
    (zgR S a0 5 0).bind fun b_4 =>
    (zck S b_4 9).bind fun u_5 =>
    (F_Te_mark n E S b_4 1 q_2.2).bind fun q_6 =>
    (zgR S a0 5 1).bind fun b_7 =>
    (zck S b_7 8).bind fun u_8 =>
    (F_Ta_atWord n E S b_7 i1 q_6).bind fun q_9 =>
    if q_9.1 = true then
      (F_Ta_advance n E S b_7 q_9.2).bind fun q_11 =>
      (F_Ps_readSum_D n E S 10 (a0, 0, q_11)).bind fun q_12 =>
      if q_12.1 = true then
        (F_Te_mark n E S b_4 2 q_12.2).bind fun q_14 =>
        some (true, q_14)
      else
        some (false, q_12.2)
    else
      some (false, q_9.2)
  else
    some (false, q_2.2)
theorem K_Ps_readTwoSums (n : Nat) (E : zE) (S : zS) (a0 : Nat) (i1 : Nat) (M : zH) (r : Bool) (M' : zH)  (h : F_Ps_readTwoSums n E S a0 i1 M = some (r, M')) : zG E Y_Ps_readTwoSums (some (.int (bI r)), S, M') 0 [(0, .ref a0), (1, .ref (eK E i1))] [] S M 0 0 := by
  unfold F_Ps_readTwoSums at h
  refine zi_aload_n 0 d_Ps_readTwoSums_0 rfl ?_
  refine zi_iconst 0 d_Ps_readTwoSums_1 rfl ?_
  obtain ⟨u_1, eu_1, h⟩ := zbind h
  obtain ⟨q_2, eq_2, h⟩ := zbind h
  refine zo_virt (k' := 0) (n' := 0) 5 [.int 0] [] [.int (bI q_2.1)] zkd_5 (zck_s eu_1) (C_Ps_readSum_D n E S 10 a0 0 M q_2.1 q_2.2 eq_2) d_Ps_readTwoSums_2 tw_669 tw_666 tw_668 ts_10 tw_6 dd_Ps_readSum ⟨Nat.le_of_ble_eq_true rfl, Nat.le_of_ble_eq_true rfl, Nat.le_of_ble_eq_true rfl, Nat.le_of_ble_eq_true rfl⟩ (Nat.le_of_ble_eq_true rfl) rfl rfl rfl rfl ?_
  refine zo_ifneB d_Ps_readTwoSums_5 rfl 8 rfl (fun c_3 => ?_) (fun c_3 => ?_)
  · rw [if_pos c_3] at h
    refine zi_aload_n 0 d_Ps_readTwoSums_10 rfl ?_
    obtain ⟨b_4, eb_4, h⟩ := zbind h
    refine zo_getR 14 zkd_5 0 d_Ps_readTwoSums_11 eb_4 rfl tw_215 rfl ?_
    refine zi_iconst 1 d_Ps_readTwoSums_14 rfl ?_
    obtain ⟨u_5, eu_5, h⟩ := zbind h
    obtain ⟨q_6, eq_6, h⟩ := zbind h
    refine zo_virt (k' := 0) (n' := 0) 18 [.int 1] [] [] zkd_9 (zck_s eu_5) (C_Te_mark n E S b_4 1 q_2.2 q_6 eq_6) d_Ps_readTwoSums_15 tw_653 tw_776 tw_651 tw_652 tw_7 dd_Te_mark ⟨Nat.le_of_ble_eq_true rfl, Nat.le_of_ble_eq_true rfl, Nat.le_of_ble_eq_true rfl, Nat.le_of_ble_eq_true rfl⟩ (Nat.le_of_ble_eq_true rfl) rfl rfl rfl rfl ?_
    refine zi_aload_n 0 d_Ps_readTwoSums_18 rfl ?_
    obtain ⟨b_7, eb_7, h⟩ := zbind h
    refine zo_getR 22 zkd_5 1 d_Ps_readTwoSums_19 eb_7 rfl tw_217 rfl ?_
    refine zi_aload_n 1 d_Ps_readTwoSums_22 rfl ?_
    obtain ⟨u_8, eu_8, h⟩ := zbind h
    obtain ⟨q_9, eq_9, h⟩ := zbind h
    refine zo_virt (k' := 0) (n' := 0) 26 [.ref (eK E i1)] [] [.int (bI q_9.1)] zkd_8 (zck_s eu_8) (C_Ta_atWord n E S b_7 i1 q_6 q_9.1 q_9.2 eq_9) d_Ps_readTwoSums_23 tw_780 tw_777 tw_778 tw_779 tw_5 dd_Ta_atWord ⟨Nat.le_of_ble_eq_true rfl, Nat.le_of_ble_eq_true rfl, Nat.le_of_ble_eq_true rfl, Nat.le_of_ble_eq_true rfl⟩ (Nat.le_of_ble_eq_true rfl) rfl rfl rfl rfl ?_
    refine zo_ifneB d_Ps_readTwoSums_26 rfl 29 rfl (fun c_10 => ?_) (fun c_10 => ?_)
    · rw [if_pos c_10] at h
      refine zi_aload_n 0 d_Ps_readTwoSums_31 rfl ?_
      refine zo_getR 35 zkd_5 1 d_Ps_readTwoSums_32 eb_7 rfl tw_217 rfl ?_
      obtain ⟨q_11, eq_11, h⟩ := zbind h
      refine zo_virt (k' := 0) (n' := 0) 38 [] [] [] zkd_8 (zck_s eu_8) (C_Ta_advance n E S b_7 q_9.2 q_11 eq_11) d_Ps_readTwoSums_35 tw_575 tw_655 tw_573 tw_574 tw_5 dd_Ta_advance ⟨Nat.le_of_ble_eq_true rfl, Nat.le_of_ble_eq_true rfl, Nat.le_of_ble_eq_true rfl, Nat.le_of_ble_eq_true rfl⟩ (Nat.le_of_ble_eq_true rfl) rfl rfl rfl rfl ?_
      refine zi_aload_n 0 d_Ps_readTwoSums_38 rfl ?_
      refine zi_iconst 0 d_Ps_readTwoSums_39 rfl ?_
      obtain ⟨q_12, eq_12, h⟩ := zbind h
      refine zo_virt (k' := 0) (n' := 0) 43 [.int 0] [] [.int (bI q_12.1)] zkd_5 (zck_s eu_1) (C_Ps_readSum_D n E S 10 a0 0 q_11 q_12.1 q_12.2 eq_12) d_Ps_readTwoSums_40 tw_669 tw_666 tw_668 ts_10 tw_6 dd_Ps_readSum ⟨Nat.le_of_ble_eq_true rfl, Nat.le_of_ble_eq_true rfl, Nat.le_of_ble_eq_true rfl, Nat.le_of_ble_eq_true rfl⟩ (Nat.le_of_ble_eq_true rfl) rfl rfl rfl rfl ?_
      refine zo_ifneB d_Ps_readTwoSums_43 rfl 46 rfl (fun c_13 => ?_) (fun c_13 => ?_)
      · rw [if_pos c_13] at h
        refine zi_aload_n 0 d_Ps_readTwoSums_48 rfl ?_
        refine zo_getR 52 zkd_5 0 d_Ps_readTwoSums_49 eb_4 rfl tw_215 rfl ?_
        refine zi_iconst 2 d_Ps_readTwoSums_52 rfl ?_
        obtain ⟨q_14, eq_14, h⟩ := zbind h
        refine zo_virt (k' := 0) (n' := 0) 56 [.int 2] [] [] zkd_9 (zck_s eu_5) (C_Te_mark n E S b_4 2 q_12.2 q_14 eq_14) d_Ps_readTwoSums_53 tw_653 tw_776 tw_651 tw_652 tw_7 dd_Te_mark ⟨Nat.le_of_ble_eq_true rfl, Nat.le_of_ble_eq_true rfl, Nat.le_of_ble_eq_true rfl, Nat.le_of_ble_eq_true rfl⟩ (Nat.le_of_ble_eq_true rfl) rfl rfl rfl rfl ?_
        refine zi_iconst 1 d_Ps_readTwoSums_56 rfl ?_
        cases h
        exact zo_retB d_Ps_readTwoSums_57 (Nat.le_of_ble_eq_true rfl) (Nat.le_of_ble_eq_true rfl) rfl
      · rw [if_neg c_13] at h
        refine zi_iconst 0 d_Ps_readTwoSums_46 rfl ?_
        cases h
        exact zo_retB d_Ps_readTwoSums_47 (Nat.le_of_ble_eq_true rfl) (Nat.le_of_ble_eq_true rfl) rfl
    · rw [if_neg c_10] at h
      refine zi_iconst 0 d_Ps_readTwoSums_29 rfl ?_
      cases h
      exact zo_retB d_Ps_readTwoSums_30 (Nat.le_of_ble_eq_true rfl) (Nat.le_of_ble_eq_true rfl) rfl
  · rw [if_neg c_3] at h
    refine zi_iconst 0 d_Ps_readTwoSums_8 rfl ?_
    cases h
    exact zo_retB d_Ps_readTwoSums_9 (Nat.le_of_ble_eq_true rfl) (Nat.le_of_ble_eq_true rfl) rfl
theorem C_Ps_readTwoSums (n : Nat) (E : zE) (S : zS) (a0 : Nat) (i1 : Nat) (M : zH) (r : Bool) (M' : zH) (h : F_Ps_readTwoSums n E S a0 i1 M = some (r, M')) : zC E Y_Ps_readTwoSums [.ref a0, .ref (eK E i1)] S M (some (.int (bI r)), S, M') :=
  zC.of (Or.inl (show plainName "NightColander$Parser" = true by decide)) (Nat.le_of_ble_eq_true rfl) (bI_nar r) (K_Ps_readTwoSums n E S a0 i1 M r M' h)
theorem d_Te_setTimes_0 : decode (yB Y_Te_setTimes) 0 = .ok (.aload_n 0, 1) := by decide +kernel
theorem d_Te_setTimes_1 : decode (yB Y_Te_setTimes) 1 = .ok (.getfield 13, 3) := by decide +kernel
theorem d_Te_setTimes_4 : decode (yB Y_Te_setTimes) 4 = .ok (.bipush 12, 2) := by decide +kernel
theorem d_Te_setTimes_6 : decode (yB Y_Te_setTimes) 6 = .ok (.if_icmp .ge 13, 3) := by decide +kernel
theorem d_Te_setTimes_9 : decode (yB Y_Te_setTimes) 9 = .ok (.aload_n 0, 1) := by decide +kernel
theorem d_Te_setTimes_10 : decode (yB Y_Te_setTimes) 10 = .ok (.getfield 23, 3) := by decide +kernel
theorem d_Te_setTimes_13 : decode (yB Y_Te_setTimes) 13 = .ok (.aload_n 0, 1) := by decide +kernel
theorem d_Te_setTimes_14 : decode (yB Y_Te_setTimes) 14 = .ok (.getfield 13, 3) := by decide +kernel
theorem d_Te_setTimes_17 : decode (yB Y_Te_setTimes) 17 = .ok (.iload_n 1, 1) := by decide +kernel
theorem d_Te_setTimes_18 : decode (yB Y_Te_setTimes) 18 = .ok (.iastore, 1) := by decide +kernel
theorem d_Te_setTimes_19 : decode (yB Y_Te_setTimes) 19 = .ok (.return_, 1) := by decide +kernel
def F_Te_setTimes (n : Nat) (E : zE) (S : zS) (a0 : Nat) (x1 : Int32) (M : zH) : Option (zH) :=
  (zgI S M a0 9 6).bind fun v_1 =>
  if 12 ≤ v_1 then
    some (M)
  else
    (zgR S a0 9 2).bind fun b_3 =>
    (zgI S M a0 9 6).bind fun v_4 =>
    (zstI S M b_3 v_4 x1).bind fun m_5 =>
    some (m_5)
theorem K_Te_setTimes (n : Nat) (E : zE) (S : zS) (a0 : Nat) (x1 : Int32) (M : zH) (M' : zH)  (h : F_Te_setTimes n E S a0 x1 M = some M') : zG E Y_Te_setTimes (none, S, M') 0 [(0, .ref a0), (1, .int x1)] [] S M 0 0 := by
  unfold F_Te_setTimes at h
  refine zi_aload_n 0 d_Te_setTimes_0 rfl ?_
  obtain ⟨v_1, ev_1, h⟩ := zbind h
  refine zo_getI 4 zkd_9 6 d_Te_setTimes_1 ev_1 rfl tw_197 rfl ?_
  refine zi_bipush 12 d_Te_setTimes_4 rfl ?_
  refine zi_icmp_ge (tgt := 19) d_Te_setTimes_6 rfl (fun c_2 => ?_) (fun c_2 => ?_)
  · rw [if_pos c_2] at h
    cases h
    exact zo_ret d_Te_setTimes_19 (Nat.le_of_ble_eq_true rfl) (Nat.le_of_ble_eq_true rfl) rfl
  · rw [if_neg c_2] at h
    refine zi_aload_n 0 d_Te_setTimes_9 rfl ?_
    obtain ⟨b_3, eb_3, h⟩ := zbind h
    refine zo_getR 13 zkd_9 2 d_Te_setTimes_10 eb_3 rfl tw_190 rfl ?_
    refine zi_aload_n 0 d_Te_setTimes_13 rfl ?_
    obtain ⟨v_4, ev_4, h⟩ := zbind h
    refine zo_getI 17 zkd_9 6 d_Te_setTimes_14 ev_4 rfl tw_197 rfl ?_
    refine zi_iload_n 1 d_Te_setTimes_17 rfl ?_
    obtain ⟨m_5, em_5, h⟩ := zbind h
    refine zo_iast 19 d_Te_setTimes_18 em_5 rfl ?_
    cases h
    exact zo_ret d_Te_setTimes_19 (Nat.le_of_ble_eq_true rfl) (Nat.le_of_ble_eq_true rfl) rfl
theorem C_Te_setTimes (n : Nat) (E : zE) (S : zS) (a0 : Nat) (x1 : Int32) (M : zH) (M' : zH) (h : F_Te_setTimes n E S a0 x1 M = some M') : zC E Y_Te_setTimes [.ref a0, .int x1] S M (none, S, M') :=
  zC.of (Or.inl (show plainName "NightColander$Text" = true by decide)) (Nat.le_of_ble_eq_true rfl) (trivial) (K_Te_setTimes n E S a0 x1 M M' h)
