/-! METHODS (printed by gen/build.py): Mo_isNew Mo_findPlaced Mo_layCaught Mo_placed Mo_seen Mo_forget Mo_turnOf Mo_fallsOn -/
theorem d_Mo_isNew_0 : decode (yB Y_Mo_isNew) 0 = .ok (.aload_n 0, 1) := by decide +kernel
theorem d_Mo_isNew_1 : decode (yB Y_Mo_isNew) 1 = .ok (.getfield 115, 3) := by decide +kernel
theorem d_Mo_isNew_4 : decode (yB Y_Mo_isNew) 4 = .ok (.bipush 8, 2) := by decide +kernel
theorem d_Mo_isNew_6 : decode (yB Y_Mo_isNew) 6 = .ok (.iload_n 1, 1) := by decide +kernel
theorem d_Mo_isNew_7 : decode (yB Y_Mo_isNew) 7 = .ok (.imul, 1) := by decide +kernel
theorem d_Mo_isNew_8 : decode (yB Y_Mo_isNew) 8 = .ok (.aload_n 0, 1) := by decide +kernel
theorem d_Mo_isNew_9 : decode (yB Y_Mo_isNew) 9 = .ok (.getfield 118, 3) := by decide +kernel
theorem d_Mo_isNew_12 : decode (yB Y_Mo_isNew) 12 = .ok (.iload_n 1, 1) := by decide +kernel
theorem d_Mo_isNew_13 : decode (yB Y_Mo_isNew) 13 = .ok (.iaload, 1) := by decide +kernel
theorem d_Mo_isNew_14 : decode (yB Y_Mo_isNew) 14 = .ok (.iadd, 1) := by decide +kernel
theorem d_Mo_isNew_15 : decode (yB Y_Mo_isNew) 15 = .ok (.iaload, 1) := by decide +kernel
theorem d_Mo_isNew_16 : decode (yB Y_Mo_isNew) 16 = .ok (.iconst (-1), 1) := by decide +kernel
theorem d_Mo_isNew_17 : decode (yB Y_Mo_isNew) 17 = .ok (.if_icmp .eq 7, 3) := by decide +kernel
theorem d_Mo_isNew_20 : decode (yB Y_Mo_isNew) 20 = .ok (.iconst 1, 1) := by decide +kernel
theorem d_Mo_isNew_21 : decode (yB Y_Mo_isNew) 21 = .ok (.goto 4, 3) := by decide +kernel
theorem d_Mo_isNew_24 : decode (yB Y_Mo_isNew) 24 = .ok (.iconst 0, 1) := by decide +kernel
theorem d_Mo_isNew_25 : decode (yB Y_Mo_isNew) 25 = .ok (.istore_n 2, 1) := by decide +kernel
theorem d_Mo_isNew_26 : decode (yB Y_Mo_isNew) 26 = .ok (.iconst 0, 1) := by decide +kernel
theorem d_Mo_isNew_27 : decode (yB Y_Mo_isNew) 27 = .ok (.istore_n 3, 1) := by decide +kernel
theorem d_Mo_isNew_28 : decode (yB Y_Mo_isNew) 28 = .ok (.iload_n 3, 1) := by decide +kernel
theorem d_Mo_isNew_29 : decode (yB Y_Mo_isNew) 29 = .ok (.iload_n 1, 1) := by decide +kernel
theorem d_Mo_isNew_30 : decode (yB Y_Mo_isNew) 30 = .ok (.if_icmp .ge 34, 3) := by decide +kernel
theorem d_Mo_isNew_33 : decode (yB Y_Mo_isNew) 33 = .ok (.iload_n 2, 1) := by decide +kernel
theorem d_Mo_isNew_34 : decode (yB Y_Mo_isNew) 34 = .ok (.ifCond .eq 22, 3) := by decide +kernel
theorem d_Mo_isNew_37 : decode (yB Y_Mo_isNew) 37 = .ok (.aload_n 0, 1) := by decide +kernel
theorem d_Mo_isNew_38 : decode (yB Y_Mo_isNew) 38 = .ok (.getfield 118, 3) := by decide +kernel
theorem d_Mo_isNew_41 : decode (yB Y_Mo_isNew) 41 = .ok (.iload_n 3, 1) := by decide +kernel
theorem d_Mo_isNew_42 : decode (yB Y_Mo_isNew) 42 = .ok (.iaload, 1) := by decide +kernel
theorem d_Mo_isNew_43 : decode (yB Y_Mo_isNew) 43 = .ok (.aload_n 0, 1) := by decide +kernel
theorem d_Mo_isNew_44 : decode (yB Y_Mo_isNew) 44 = .ok (.getfield 118, 3) := by decide +kernel
theorem d_Mo_isNew_47 : decode (yB Y_Mo_isNew) 47 = .ok (.iload_n 1, 1) := by decide +kernel
theorem d_Mo_isNew_48 : decode (yB Y_Mo_isNew) 48 = .ok (.iaload, 1) := by decide +kernel
theorem d_Mo_isNew_49 : decode (yB Y_Mo_isNew) 49 = .ok (.if_icmp .eq 7, 3) := by decide +kernel
theorem d_Mo_isNew_52 : decode (yB Y_Mo_isNew) 52 = .ok (.iconst 1, 1) := by decide +kernel
theorem d_Mo_isNew_53 : decode (yB Y_Mo_isNew) 53 = .ok (.goto 4, 3) := by decide +kernel
theorem d_Mo_isNew_56 : decode (yB Y_Mo_isNew) 56 = .ok (.iconst 0, 1) := by decide +kernel
theorem d_Mo_isNew_57 : decode (yB Y_Mo_isNew) 57 = .ok (.istore_n 2, 1) := by decide +kernel
theorem d_Mo_isNew_58 : decode (yB Y_Mo_isNew) 58 = .ok (.iinc 3 1, 3) := by decide +kernel
theorem d_Mo_isNew_61 : decode (yB Y_Mo_isNew) 61 = .ok (.goto (-33), 3) := by decide +kernel
theorem d_Mo_isNew_64 : decode (yB Y_Mo_isNew) 64 = .ok (.iload_n 2, 1) := by decide +kernel
theorem d_Mo_isNew_65 : decode (yB Y_Mo_isNew) 65 = .ok (.ireturn, 1) := by decide +kernel
def F_Mo_isNew_b57 (n : Nat) (E : zE) (S : zS) (r28 : Nat × Int32 × Int32 × Int32 × zH → Option (Bool × zH)) (a0 : Nat) (x1 : Int32) (x3 : Int32) (s0 : Int32) (M : zH) : Option (Bool × zH) :=
  r28 (a0, x1, s0, x3 + 1, M)
def F_Mo_isNew_b56 (n : Nat) (E : zE) (S : zS) (r28 : Nat × Int32 × Int32 × Int32 × zH → Option (Bool × zH)) (a0 : Nat) (x1 : Int32) (x3 : Int32) (M : zH) : Option (Bool × zH) :=
  F_Mo_isNew_b57 n E S r28 a0 x1 x3 0 M
def F_Mo_isNew_L28 (n : Nat) (E : zE) (S : zS) (r28 : Nat × Int32 × Int32 × Int32 × zH → Option (Bool × zH)) (a0 : Nat) (x1 : Int32) (x2 : Int32) (x3 : Int32) (M : zH) : Option (Bool × zH) :=
  if x1 ≤ x3 then
    (zbl x2).bind fun z_2 =>
    some (z_2, M)
  else
    if x2 = 0 then
      F_Mo_isNew_b56 n E S r28 a0 x1 x3 M
    else
      (zgR S a0 11 43).bind fun b_4 =>
      (zldI S M b_4 x3).bind fun v_5 =>
      (zldI S M b_4 x1).bind fun v_6 =>
      if v_5 = v_6 then
        F_Mo_isNew_b56 n E S r28 a0 x1 x3 M
      else
        F_Mo_isNew_b57 n E S r28 a0 x1 x3 1 M
def F_Mo_isNew_b28 (n : Nat) (E : zE) (S : zS) : Nat × Int32 × Int32 × Int32 × zH → Option (Bool × zH) := zfix (fun r28 s => F_Mo_isNew_L28 n E S r28 s.1 s.2.1 s.2.2.1 s.2.2.2.1 s.2.2.2.2) n
def F_Mo_isNew_b25 (n : Nat) (E : zE) (S : zS) (a0 : Nat) (x1 : Int32) (s0 : Int32) (M : zH) : Option (Bool × zH) :=
  F_Mo_isNew_b28 n E S (a0, x1, s0, 0, M)
def F_Mo_isNew (n : Nat) (E : zE) (S : zS) (a0 : Nat) (x1 : Int32) (M : zH) : Option (Bool × zH) :=
  (zgR S a0 11 42).bind fun b_8 =>
  (zgR S a0 11 43).bind fun b_9 =>
  (zldI S M b_9 x1).bind fun v_10 =>
  (zldI S M b_8 ((8 * x1) + v_10)).bind fun v_11 =>
  if v_11 = (-1) then
    F_Mo_isNew_b25 n E S a0 x1 0 M
  else
    F_Mo_isNew_b25 n E S a0 x1 1 M
theorem K_Mo_isNew_b57 (n : Nat) (E : zE) (S : zS) (r28 : Nat × Int32 × Int32 × Int32 × zH → Option (Bool × zH)) (a0 : Nat) (x1 : Int32) (x3 : Int32) (s0 : Int32) (M : zH) (r : Bool) (M' : zH) (hr28 : ∀ (a0 : Nat) (x1 : Int32) (x2 : Int32) (x3 : Int32) (M : zH), r28 (a0, x1, x2, x3, M) = some (r, M') → zG E Y_Mo_isNew (some (.int (bI r)), S, M') 28 [(0, .ref a0), (1, .int x1), (2, .int x2), (3, .int x3)] [] S M 0 0) (h : F_Mo_isNew_b57 n E S r28 a0 x1 x3 s0 M = some (r, M')) : zG E Y_Mo_isNew (some (.int (bI r)), S, M') 57 [(0, .ref a0), (1, .int x1), (3, .int x3)] [.int s0] S M 0 0 := by
  unfold F_Mo_isNew_b57 at h
  refine zi_istore_n [(2, .int s0), (0, .ref a0), (1, .int x1), (3, .int x3)] d_Mo_isNew_57 (by decide) rfl ?_
  refine zi_iinc 3 (x3 + 1) [(3, .int (x3 + 1)), (2, .int s0), (0, .ref a0), (1, .int x1)] d_Mo_isNew_58 rfl rfl (by decide) rfl ?_
  refine zi_goto (tgt := 28) d_Mo_isNew_61 rfl ?_
  refine zi_lo [(0, .ref a0), (1, .int x1), (2, .int s0), (3, .int (x3 + 1))] [2, 3, 1, 0] rfl ?_
  exact hr28 a0 x1 s0 (x3 + 1) M h
theorem K_Mo_isNew_b56 (n : Nat) (E : zE) (S : zS) (r28 : Nat × Int32 × Int32 × Int32 × zH → Option (Bool × zH)) (a0 : Nat) (x1 : Int32) (x3 : Int32) (M : zH) (r : Bool) (M' : zH) (hr28 : ∀ (a0 : Nat) (x1 : Int32) (x2 : Int32) (x3 : Int32) (M : zH), r28 (a0, x1, x2, x3, M) = some (r, M') → zG E Y_Mo_isNew (some (.int (bI r)), S, M') 28 [(0, .ref a0), (1, .int x1), (2, .int x2), (3, .int x3)] [] S M 0 0) (h : F_Mo_isNew_b56 n E S r28 a0 x1 x3 M = some (r, M')) : zG E Y_Mo_isNew (some (.int (bI r)), S, M') 56 [(0, .ref a0), (1, .int x1), (3, .int x3)] [] S M 0 0 := by
  unfold F_Mo_isNew_b56 at h
  refine zi_iconst 0 d_Mo_isNew_56 rfl ?_
  refine zi_lo [(0, .ref a0), (1, .int x1), (3, .int x3)] [0, 1, 2] rfl ?_
  exact K_Mo_isNew_b57 n E S r28 a0 x1 x3 0 M r M' hr28 h
theorem K_Mo_isNew_L28 (n : Nat) (E : zE) (S : zS) (r28 : Nat × Int32 × Int32 × Int32 × zH → Option (Bool × zH)) (a0 : Nat) (x1 : Int32) (x2 : Int32) (x3 : Int32) (M : zH) (r : Bool) (M' : zH) (hr28 : ∀ (a0 : Nat) (x1 : Int32) (x2 : Int32) (x3 : Int32) (M : zH), r28 (a0, x1, x2, x3, M) = some (r, M') → zG E Y_Mo_isNew (some (.int (bI r)), S, M') 28 [(0, .ref a0), (1, .int x1), (2, .int x2), (3, .int x3)] [] S M 0 0) (h : F_Mo_isNew_L28 n E S r28 a0 x1 x2 x3 M = some (r, M')) : zG E Y_Mo_isNew (some (.int (bI r)), S, M') 28 [(0, .ref a0), (1, .int x1), (2, .int x2), (3, .int x3)] [] S M 0 0 := by
  unfold F_Mo_isNew_L28 at h
  refine zi_iload_n 3 d_Mo_isNew_28 rfl ?_
  refine zi_iload_n 1 d_Mo_isNew_29 rfl ?_
  refine zi_icmp_ge (tgt := 64) d_Mo_isNew_30 rfl (fun c_1 => ?_) (fun c_1 => ?_)
  · rw [if_pos c_1] at h
    refine zi_iload_n 2 d_Mo_isNew_64 rfl ?_
    obtain ⟨z_2, ez_2, h⟩ := zbind h
    cases h
    exact zo_retB d_Mo_isNew_65 (Nat.le_of_ble_eq_true rfl) (Nat.le_of_ble_eq_true rfl) (zbl_s ez_2)
  · rw [if_neg c_1] at h
    refine zi_iload_n 2 d_Mo_isNew_33 rfl ?_
    refine zi_if_eq (tgt := 56) d_Mo_isNew_34 rfl (fun c_3 => ?_) (fun c_3 => ?_)
    · rw [if_pos c_3] at h
      refine zi_lo [(0, .ref a0), (1, .int x1), (3, .int x3)] [0, 1, 3] rfl ?_
      exact K_Mo_isNew_b56 n E S r28 a0 x1 x3 M r M' hr28 h
    · rw [if_neg c_3] at h
      refine zi_aload_n 0 d_Mo_isNew_37 rfl ?_
      obtain ⟨b_4, eb_4, h⟩ := zbind h
      refine zo_getR 41 zkd_11 43 d_Mo_isNew_38 eb_4 rfl tw_1274 rfl ?_
      refine zi_iload_n 3 d_Mo_isNew_41 rfl ?_
      obtain ⟨v_5, ev_5, h⟩ := zbind h
      refine zo_iald 43 d_Mo_isNew_42 ev_5 rfl ?_
      refine zi_aload_n 0 d_Mo_isNew_43 rfl ?_
      refine zo_getR 47 zkd_11 43 d_Mo_isNew_44 eb_4 rfl tw_1274 rfl ?_
      refine zi_iload_n 1 d_Mo_isNew_47 rfl ?_
      obtain ⟨v_6, ev_6, h⟩ := zbind h
      refine zo_iald 49 d_Mo_isNew_48 ev_6 rfl ?_
      refine zi_icmp_eq (tgt := 56) d_Mo_isNew_49 rfl (fun c_7 => ?_) (fun c_7 => ?_)
      · rw [if_pos c_7] at h
        refine zi_lo [(0, .ref a0), (1, .int x1), (3, .int x3)] [0, 1, 3] rfl ?_
        exact K_Mo_isNew_b56 n E S r28 a0 x1 x3 M r M' hr28 h
      · rw [if_neg c_7] at h
        refine zi_iconst 1 d_Mo_isNew_52 rfl ?_
        refine zi_goto (tgt := 57) d_Mo_isNew_53 rfl ?_
        refine zi_lo [(0, .ref a0), (1, .int x1), (3, .int x3)] [0, 1, 3] rfl ?_
        exact K_Mo_isNew_b57 n E S r28 a0 x1 x3 1 M r M' hr28 h
theorem K_Mo_isNew_b28 (n : Nat) (E : zE) (S : zS) (a0 : Nat) (x1 : Int32) (x2 : Int32) (x3 : Int32) (M : zH) (r : Bool) (M' : zH)  (h : F_Mo_isNew_b28 n E S (a0, x1, x2, x3, M) = some (r, M')) : zG E Y_Mo_isNew (some (.int (bI r)), S, M') 28 [(0, .ref a0), (1, .int x1), (2, .int x2), (3, .int x3)] [] S M 0 0 := by
  have key : ∀ (k : Nat) (a0 : Nat) (x1 : Int32) (x2 : Int32) (x3 : Int32) (M : zH), zfix (fun r28 s => F_Mo_isNew_L28 n E S r28 s.1 s.2.1 s.2.2.1 s.2.2.2.1 s.2.2.2.2) k (a0, x1, x2, x3, M) = some (r, M') → zG E Y_Mo_isNew (some (.int (bI r)), S, M') 28 [(0, .ref a0), (1, .int x1), (2, .int x2), (3, .int x3)] [] S M 0 0 := by
    intro k
    induction k with
    | zero => intro a0 x1 x2 x3 M h; cases h
    | succ k ih => intro a0 x1 x2 x3 M h; exact K_Mo_isNew_L28 n E S _ a0 x1 x2 x3 M r M'  (fun a0 x1 x2 x3 M h => ih a0 x1 x2 x3 M h) h
  exact key n a0 x1 x2 x3 M h
theorem K_Mo_isNew_b25 (n : Nat) (E : zE) (S : zS) (a0 : Nat) (x1 : Int32) (s0 : Int32) (M : zH) (r : Bool) (M' : zH)  (h : F_Mo_isNew_b25 n E S a0 x1 s0 M = some (r, M')) : zG E Y_Mo_isNew (some (.int (bI r)), S, M') 25 [(0, .ref a0), (1, .int x1)] [.int s0] S M 0 0 := by
  unfold F_Mo_isNew_b25 at h
  refine zi_istore_n [(2, .int s0), (0, .ref a0), (1, .int x1)] d_Mo_isNew_25 (by decide) rfl ?_
  refine zi_iconst 0 d_Mo_isNew_26 rfl ?_
  refine zi_istore_n [(3, .int 0), (2, .int s0), (0, .ref a0), (1, .int x1)] d_Mo_isNew_27 (by decide) rfl ?_
  refine zi_lo [(0, .ref a0), (1, .int x1), (2, .int s0), (3, .int 0)] [2, 3, 1, 0] rfl ?_
  exact K_Mo_isNew_b28 n E S a0 x1 s0 0 M r M'  h
theorem K_Mo_isNew (n : Nat) (E : zE) (S : zS) (a0 : Nat) (x1 : Int32) (M : zH) (r : Bool) (M' : zH)  (h : F_Mo_isNew n E S a0 x1 M = some (r, M')) : zG E Y_Mo_isNew (some (.int (bI r)), S, M') 0 [(0, .ref a0), (1, .int x1)] [] S M 0 0 := by
  unfold F_Mo_isNew at h
  refine zi_aload_n 0 d_Mo_isNew_0 rfl ?_
  obtain ⟨b_8, eb_8, h⟩ := zbind h
  refine zo_getR 4 zkd_11 42 d_Mo_isNew_1 eb_8 rfl tw_1273 rfl ?_
  refine zi_bipush 8 d_Mo_isNew_4 rfl ?_
  refine zi_iload_n 1 d_Mo_isNew_6 rfl ?_
  refine zi_imul d_Mo_isNew_7 ?_
  refine zi_aload_n 0 d_Mo_isNew_8 rfl ?_
  obtain ⟨b_9, eb_9, h⟩ := zbind h
  refine zo_getR 12 zkd_11 43 d_Mo_isNew_9 eb_9 rfl tw_1274 rfl ?_
  refine zi_iload_n 1 d_Mo_isNew_12 rfl ?_
  obtain ⟨v_10, ev_10, h⟩ := zbind h
  refine zo_iald 14 d_Mo_isNew_13 ev_10 rfl ?_
  refine zi_iadd d_Mo_isNew_14 ?_
  obtain ⟨v_11, ev_11, h⟩ := zbind h
  refine zo_iald 16 d_Mo_isNew_15 ev_11 rfl ?_
  refine zi_iconst (-1) d_Mo_isNew_16 rfl ?_
  refine zi_icmp_eq (tgt := 24) d_Mo_isNew_17 rfl (fun c_12 => ?_) (fun c_12 => ?_)
  · rw [if_pos c_12] at h
    refine zi_iconst 0 d_Mo_isNew_24 rfl ?_
    refine zi_lo [(0, .ref a0), (1, .int x1)] [0, 1] rfl ?_
    exact K_Mo_isNew_b25 n E S a0 x1 0 M r M'  h
  · rw [if_neg c_12] at h
    refine zi_iconst 1 d_Mo_isNew_20 rfl ?_
    refine zi_goto (tgt := 25) d_Mo_isNew_21 rfl ?_
    refine zi_lo [(0, .ref a0), (1, .int x1)] [0, 1] rfl ?_
    exact K_Mo_isNew_b25 n E S a0 x1 1 M r M'  h
theorem C_Mo_isNew (n : Nat) (E : zE) (S : zS) (a0 : Nat) (x1 : Int32) (M : zH) (r : Bool) (M' : zH) (h : F_Mo_isNew n E S a0 x1 M = some (r, M')) : zC E Y_Mo_isNew [.ref a0, .int x1] S M (some (.int (bI r)), S, M') :=
  zC.of (Or.inl (show plainName "NightColanderModel" = true by decide)) (Nat.le_of_ble_eq_true rfl) (bI_nar r) (K_Mo_isNew n E S a0 x1 M r M' h)
theorem d_Mo_findPlaced_0 : decode (yB Y_Mo_findPlaced) 0 = .ok (.aload_n 0, 1) := by decide +kernel
theorem d_Mo_findPlaced_1 : decode (yB Y_Mo_findPlaced) 1 = .ok (.getfield 13, 3) := by decide +kernel
theorem d_Mo_findPlaced_4 : decode (yB Y_Mo_findPlaced) 4 = .ok (.iconst 0, 1) := by decide +kernel
theorem d_Mo_findPlaced_5 : decode (yB Y_Mo_findPlaced) 5 = .ok (.iaload, 1) := by decide +kernel
theorem d_Mo_findPlaced_6 : decode (yB Y_Mo_findPlaced) 6 = .ok (.istore_n 1, 1) := by decide +kernel
theorem d_Mo_findPlaced_7 : decode (yB Y_Mo_findPlaced) 7 = .ok (.iconst (-1), 1) := by decide +kernel
theorem d_Mo_findPlaced_8 : decode (yB Y_Mo_findPlaced) 8 = .ok (.istore_n 2, 1) := by decide +kernel
theorem d_Mo_findPlaced_9 : decode (yB Y_Mo_findPlaced) 9 = .ok (.iconst 0, 1) := by decide +kernel
theorem d_Mo_findPlaced_10 : decode (yB Y_Mo_findPlaced) 10 = .ok (.istore_n 3, 1) := by decide +kernel
theorem d_Mo_findPlaced_11 : decode (yB Y_Mo_findPlaced) 11 = .ok (.aload_n 0, 1) := by decide +kernel
theorem d_Mo_findPlaced_12 : decode (yB Y_Mo_findPlaced) 12 = .ok (.getfield 118, 3) := by decide +kernel
theorem d_Mo_findPlaced_15 : decode (yB Y_Mo_findPlaced) 15 = .ok (.iconst 0, 1) := by decide +kernel
theorem d_Mo_findPlaced_16 : decode (yB Y_Mo_findPlaced) 16 = .ok (.iconst (-1), 1) := by decide +kernel
theorem d_Mo_findPlaced_17 : decode (yB Y_Mo_findPlaced) 17 = .ok (.iastore, 1) := by decide +kernel
theorem d_Mo_findPlaced_18 : decode (yB Y_Mo_findPlaced) 18 = .ok (.iload_n 3, 1) := by decide +kernel
theorem d_Mo_findPlaced_19 : decode (yB Y_Mo_findPlaced) 19 = .ok (.ifCond .lt 166, 3) := by decide +kernel
theorem d_Mo_findPlaced_22 : decode (yB Y_Mo_findPlaced) 22 = .ok (.aload_n 0, 1) := by decide +kernel
theorem d_Mo_findPlaced_23 : decode (yB Y_Mo_findPlaced) 23 = .ok (.getfield 118, 3) := by decide +kernel
theorem d_Mo_findPlaced_26 : decode (yB Y_Mo_findPlaced) 26 = .ok (.iload_n 3, 1) := by decide +kernel
theorem d_Mo_findPlaced_27 : decode (yB Y_Mo_findPlaced) 27 = .ok (.dup2, 1) := by decide +kernel
theorem d_Mo_findPlaced_28 : decode (yB Y_Mo_findPlaced) 28 = .ok (.iaload, 1) := by decide +kernel
theorem d_Mo_findPlaced_29 : decode (yB Y_Mo_findPlaced) 29 = .ok (.iconst 1, 1) := by decide +kernel
theorem d_Mo_findPlaced_30 : decode (yB Y_Mo_findPlaced) 30 = .ok (.iadd, 1) := by decide +kernel
theorem d_Mo_findPlaced_31 : decode (yB Y_Mo_findPlaced) 31 = .ok (.iastore, 1) := by decide +kernel
theorem d_Mo_findPlaced_32 : decode (yB Y_Mo_findPlaced) 32 = .ok (.iload_n 3, 1) := by decide +kernel
theorem d_Mo_findPlaced_33 : decode (yB Y_Mo_findPlaced) 33 = .ok (.iload_n 1, 1) := by decide +kernel
theorem d_Mo_findPlaced_34 : decode (yB Y_Mo_findPlaced) 34 = .ok (.if_icmp .eq 14, 3) := by decide +kernel
theorem d_Mo_findPlaced_37 : decode (yB Y_Mo_findPlaced) 37 = .ok (.aload_n 0, 1) := by decide +kernel
theorem d_Mo_findPlaced_38 : decode (yB Y_Mo_findPlaced) 38 = .ok (.getfield 118, 3) := by decide +kernel
theorem d_Mo_findPlaced_41 : decode (yB Y_Mo_findPlaced) 41 = .ok (.iload_n 3, 1) := by decide +kernel
theorem d_Mo_findPlaced_42 : decode (yB Y_Mo_findPlaced) 42 = .ok (.iaload, 1) := by decide +kernel
theorem d_Mo_findPlaced_43 : decode (yB Y_Mo_findPlaced) 43 = .ok (.bipush 8, 2) := by decide +kernel
theorem d_Mo_findPlaced_45 : decode (yB Y_Mo_findPlaced) 45 = .ok (.if_icmp .lt 119, 3) := by decide +kernel
theorem d_Mo_findPlaced_48 : decode (yB Y_Mo_findPlaced) 48 = .ok (.iconst 0, 1) := by decide +kernel
theorem d_Mo_findPlaced_49 : decode (yB Y_Mo_findPlaced) 49 = .ok (.istore 4, 2) := by decide +kernel
theorem d_Mo_findPlaced_51 : decode (yB Y_Mo_findPlaced) 51 = .ok (.iconst 0, 1) := by decide +kernel
theorem d_Mo_findPlaced_52 : decode (yB Y_Mo_findPlaced) 52 = .ok (.istore 5, 2) := by decide +kernel
theorem d_Mo_findPlaced_54 : decode (yB Y_Mo_findPlaced) 54 = .ok (.iload 5, 2) := by decide +kernel
theorem d_Mo_findPlaced_56 : decode (yB Y_Mo_findPlaced) 56 = .ok (.iload_n 1, 1) := by decide +kernel
theorem d_Mo_findPlaced_57 : decode (yB Y_Mo_findPlaced) 57 = .ok (.if_icmp .ge 37, 3) := by decide +kernel
theorem d_Mo_findPlaced_60 : decode (yB Y_Mo_findPlaced) 60 = .ok (.iload_n 3, 1) := by decide +kernel
theorem d_Mo_findPlaced_61 : decode (yB Y_Mo_findPlaced) 61 = .ok (.iload_n 1, 1) := by decide +kernel
theorem d_Mo_findPlaced_62 : decode (yB Y_Mo_findPlaced) 62 = .ok (.if_icmp .ne 32, 3) := by decide +kernel
theorem d_Mo_findPlaced_65 : decode (yB Y_Mo_findPlaced) 65 = .ok (.iload 4, 2) := by decide +kernel
theorem d_Mo_findPlaced_67 : decode (yB Y_Mo_findPlaced) 67 = .ok (.aload_n 0, 1) := by decide +kernel
theorem d_Mo_findPlaced_68 : decode (yB Y_Mo_findPlaced) 68 = .ok (.getfield 115, 3) := by decide +kernel
theorem d_Mo_findPlaced_71 : decode (yB Y_Mo_findPlaced) 71 = .ok (.bipush 8, 2) := by decide +kernel
theorem d_Mo_findPlaced_73 : decode (yB Y_Mo_findPlaced) 73 = .ok (.iload 5, 2) := by decide +kernel
theorem d_Mo_findPlaced_75 : decode (yB Y_Mo_findPlaced) 75 = .ok (.imul, 1) := by decide +kernel
theorem d_Mo_findPlaced_76 : decode (yB Y_Mo_findPlaced) 76 = .ok (.aload_n 0, 1) := by decide +kernel
theorem d_Mo_findPlaced_77 : decode (yB Y_Mo_findPlaced) 77 = .ok (.getfield 118, 3) := by decide +kernel
theorem d_Mo_findPlaced_80 : decode (yB Y_Mo_findPlaced) 80 = .ok (.iload 5, 2) := by decide +kernel
theorem d_Mo_findPlaced_82 : decode (yB Y_Mo_findPlaced) 82 = .ok (.iaload, 1) := by decide +kernel
theorem d_Mo_findPlaced_83 : decode (yB Y_Mo_findPlaced) 83 = .ok (.iadd, 1) := by decide +kernel
theorem d_Mo_findPlaced_84 : decode (yB Y_Mo_findPlaced) 84 = .ok (.iaload, 1) := by decide +kernel
theorem d_Mo_findPlaced_85 : decode (yB Y_Mo_findPlaced) 85 = .ok (.iadd, 1) := by decide +kernel
theorem d_Mo_findPlaced_86 : decode (yB Y_Mo_findPlaced) 86 = .ok (.istore 4, 2) := by decide +kernel
theorem d_Mo_findPlaced_88 : decode (yB Y_Mo_findPlaced) 88 = .ok (.iinc 5 1, 3) := by decide +kernel
theorem d_Mo_findPlaced_91 : decode (yB Y_Mo_findPlaced) 91 = .ok (.goto (-37), 3) := by decide +kernel
theorem d_Mo_findPlaced_94 : decode (yB Y_Mo_findPlaced) 94 = .ok (.iload_n 3, 1) := by decide +kernel
theorem d_Mo_findPlaced_95 : decode (yB Y_Mo_findPlaced) 95 = .ok (.iload_n 1, 1) := by decide +kernel
theorem d_Mo_findPlaced_96 : decode (yB Y_Mo_findPlaced) 96 = .ok (.if_icmp .ne 13, 3) := by decide +kernel
theorem d_Mo_findPlaced_99 : decode (yB Y_Mo_findPlaced) 99 = .ok (.iload 4, 2) := by decide +kernel
theorem d_Mo_findPlaced_101 : decode (yB Y_Mo_findPlaced) 101 = .ok (.iload_n 2, 1) := by decide +kernel
theorem d_Mo_findPlaced_102 : decode (yB Y_Mo_findPlaced) 102 = .ok (.if_icmp .le 7, 3) := by decide +kernel
theorem d_Mo_findPlaced_105 : decode (yB Y_Mo_findPlaced) 105 = .ok (.iconst 1, 1) := by decide +kernel
theorem d_Mo_findPlaced_106 : decode (yB Y_Mo_findPlaced) 106 = .ok (.goto 4, 3) := by decide +kernel
theorem d_Mo_findPlaced_109 : decode (yB Y_Mo_findPlaced) 109 = .ok (.iconst 0, 1) := by decide +kernel
theorem d_Mo_findPlaced_110 : decode (yB Y_Mo_findPlaced) 110 = .ok (.istore 5, 2) := by decide +kernel
theorem d_Mo_findPlaced_112 : decode (yB Y_Mo_findPlaced) 112 = .ok (.iconst 0, 1) := by decide +kernel
theorem d_Mo_findPlaced_113 : decode (yB Y_Mo_findPlaced) 113 = .ok (.istore 6, 2) := by decide +kernel
theorem d_Mo_findPlaced_115 : decode (yB Y_Mo_findPlaced) 115 = .ok (.iload 6, 2) := by decide +kernel
theorem d_Mo_findPlaced_117 : decode (yB Y_Mo_findPlaced) 117 = .ok (.iload_n 1, 1) := by decide +kernel
theorem d_Mo_findPlaced_118 : decode (yB Y_Mo_findPlaced) 118 = .ok (.if_icmp .ge 28, 3) := by decide +kernel
theorem d_Mo_findPlaced_121 : decode (yB Y_Mo_findPlaced) 121 = .ok (.iload 5, 2) := by decide +kernel
theorem d_Mo_findPlaced_123 : decode (yB Y_Mo_findPlaced) 123 = .ok (.ifCond .eq 23, 3) := by decide +kernel
theorem d_Mo_findPlaced_126 : decode (yB Y_Mo_findPlaced) 126 = .ok (.aload_n 0, 1) := by decide +kernel
theorem d_Mo_findPlaced_127 : decode (yB Y_Mo_findPlaced) 127 = .ok (.getfield 121, 3) := by decide +kernel
theorem d_Mo_findPlaced_130 : decode (yB Y_Mo_findPlaced) 130 = .ok (.iload 6, 2) := by decide +kernel
theorem d_Mo_findPlaced_132 : decode (yB Y_Mo_findPlaced) 132 = .ok (.aload_n 0, 1) := by decide +kernel
theorem d_Mo_findPlaced_133 : decode (yB Y_Mo_findPlaced) 133 = .ok (.getfield 118, 3) := by decide +kernel
theorem d_Mo_findPlaced_136 : decode (yB Y_Mo_findPlaced) 136 = .ok (.iload 6, 2) := by decide +kernel
theorem d_Mo_findPlaced_138 : decode (yB Y_Mo_findPlaced) 138 = .ok (.iaload, 1) := by decide +kernel
theorem d_Mo_findPlaced_139 : decode (yB Y_Mo_findPlaced) 139 = .ok (.iastore, 1) := by decide +kernel
theorem d_Mo_findPlaced_140 : decode (yB Y_Mo_findPlaced) 140 = .ok (.iinc 6 1, 3) := by decide +kernel
theorem d_Mo_findPlaced_143 : decode (yB Y_Mo_findPlaced) 143 = .ok (.goto (-28), 3) := by decide +kernel
theorem d_Mo_findPlaced_146 : decode (yB Y_Mo_findPlaced) 146 = .ok (.iload 5, 2) := by decide +kernel
theorem d_Mo_findPlaced_148 : decode (yB Y_Mo_findPlaced) 148 = .ok (.ifCond .eq 8, 3) := by decide +kernel
theorem d_Mo_findPlaced_151 : decode (yB Y_Mo_findPlaced) 151 = .ok (.iload 4, 2) := by decide +kernel
theorem d_Mo_findPlaced_153 : decode (yB Y_Mo_findPlaced) 153 = .ok (.goto 4, 3) := by decide +kernel
theorem d_Mo_findPlaced_156 : decode (yB Y_Mo_findPlaced) 156 = .ok (.iload_n 2, 1) := by decide +kernel
theorem d_Mo_findPlaced_157 : decode (yB Y_Mo_findPlaced) 157 = .ok (.istore_n 2, 1) := by decide +kernel
theorem d_Mo_findPlaced_158 : decode (yB Y_Mo_findPlaced) 158 = .ok (.iinc 3 (-1), 3) := by decide +kernel
theorem d_Mo_findPlaced_161 : decode (yB Y_Mo_findPlaced) 161 = .ok (.goto (-143), 3) := by decide +kernel
theorem d_Mo_findPlaced_164 : decode (yB Y_Mo_findPlaced) 164 = .ok (.aload_n 0, 1) := by decide +kernel
theorem d_Mo_findPlaced_165 : decode (yB Y_Mo_findPlaced) 165 = .ok (.iload_n 3, 1) := by decide +kernel
theorem d_Mo_findPlaced_166 : decode (yB Y_Mo_findPlaced) 166 = .ok (.invokevirtual 472, 3) := by decide +kernel
theorem d_Mo_findPlaced_169 : decode (yB Y_Mo_findPlaced) 169 = .ok (.ifCond .eq (-151), 3) := by decide +kernel
theorem d_Mo_findPlaced_172 : decode (yB Y_Mo_findPlaced) 172 = .ok (.iinc 3 1, 3) := by decide +kernel
theorem d_Mo_findPlaced_175 : decode (yB Y_Mo_findPlaced) 175 = .ok (.aload_n 0, 1) := by decide +kernel
theorem d_Mo_findPlaced_176 : decode (yB Y_Mo_findPlaced) 176 = .ok (.getfield 118, 3) := by decide +kernel
theorem d_Mo_findPlaced_179 : decode (yB Y_Mo_findPlaced) 179 = .ok (.iload_n 3, 1) := by decide +kernel
theorem d_Mo_findPlaced_180 : decode (yB Y_Mo_findPlaced) 180 = .ok (.iconst (-1), 1) := by decide +kernel
theorem d_Mo_findPlaced_181 : decode (yB Y_Mo_findPlaced) 181 = .ok (.iastore, 1) := by decide +kernel
theorem d_Mo_findPlaced_182 : decode (yB Y_Mo_findPlaced) 182 = .ok (.goto (-164), 3) := by decide +kernel
theorem d_Mo_findPlaced_185 : decode (yB Y_Mo_findPlaced) 185 = .ok (.iload_n 2, 1) := by decide +kernel
theorem d_Mo_findPlaced_186 : decode (yB Y_Mo_findPlaced) 186 = .ok (.ireturn, 1) := by decide +kernel
def F_Mo_findPlaced_b157 (n : Nat) (E : zE) (S : zS) (r18 : Nat × Int32 × Int32 × Int32 × zH → Option (Int32 × zH)) (a0 : Nat) (x1 : Int32) (x3 : Int32) (s0 : Int32) (M : zH) : Option (Int32 × zH) :=
  r18 (a0, x1, s0, x3 + (-1), M)
def F_Mo_findPlaced_b146 (n : Nat) (E : zE) (S : zS) (r18 : Nat × Int32 × Int32 × Int32 × zH → Option (Int32 × zH)) (a0 : Nat) (x1 : Int32) (x2 : Int32) (x3 : Int32) (x4 : Int32) (x5 : Int32) (M : zH) : Option (Int32 × zH) :=
  if x5 = 0 then
    F_Mo_findPlaced_b157 n E S r18 a0 x1 x3 x2 M
  else
    F_Mo_findPlaced_b157 n E S r18 a0 x1 x3 x4 M
def F_Mo_findPlaced_L115 (n : Nat) (E : zE) (S : zS) (r18 : Nat × Int32 × Int32 × Int32 × zH → Option (Int32 × zH)) (r115 : Nat × Int32 × Int32 × Int32 × Int32 × Int32 × Int32 × zH → Option (Int32 × zH)) (a0 : Nat) (x1 : Int32) (x2 : Int32) (x3 : Int32) (x4 : Int32) (x5 : Int32) (x6 : Int32) (M : zH) : Option (Int32 × zH) :=
  if x1 ≤ x6 then
    F_Mo_findPlaced_b146 n E S r18 a0 x1 x2 x3 x4 x5 M
  else
    if x5 = 0 then
      F_Mo_findPlaced_b146 n E S r18 a0 x1 x2 x3 x4 x5 M
    else
      (zgR S a0 11 44).bind fun b_4 =>
      (zgR S a0 11 43).bind fun b_5 =>
      (zldI S M b_5 x6).bind fun v_6 =>
      (zstI S M b_4 x6 v_6).bind fun m_7 =>
      r115 (a0, x1, x2, x3, x4, x5, x6 + 1, m_7)
def F_Mo_findPlaced_b115 (n : Nat) (E : zE) (S : zS) (r18 : Nat × Int32 × Int32 × Int32 × zH → Option (Int32 × zH)) : Nat × Int32 × Int32 × Int32 × Int32 × Int32 × Int32 × zH → Option (Int32 × zH) := zfix (fun r115 s => F_Mo_findPlaced_L115 n E S r18 r115 s.1 s.2.1 s.2.2.1 s.2.2.2.1 s.2.2.2.2.1 s.2.2.2.2.2.1 s.2.2.2.2.2.2.1 s.2.2.2.2.2.2.2) n
def F_Mo_findPlaced_b110 (n : Nat) (E : zE) (S : zS) (r18 : Nat × Int32 × Int32 × Int32 × zH → Option (Int32 × zH)) (a0 : Nat) (x1 : Int32) (x2 : Int32) (x3 : Int32) (x4 : Int32) (s0 : Int32) (M : zH) : Option (Int32 × zH) :=
  F_Mo_findPlaced_b115 n E S r18 (a0, x1, x2, x3, x4, s0, 0, M)
def F_Mo_findPlaced_b109 (n : Nat) (E : zE) (S : zS) (r18 : Nat × Int32 × Int32 × Int32 × zH → Option (Int32 × zH)) (a0 : Nat) (x1 : Int32) (x2 : Int32) (x3 : Int32) (x4 : Int32) (M : zH) : Option (Int32 × zH) :=
  F_Mo_findPlaced_b110 n E S r18 a0 x1 x2 x3 x4 0 M
def F_Mo_findPlaced_b94 (n : Nat) (E : zE) (S : zS) (r18 : Nat × Int32 × Int32 × Int32 × zH → Option (Int32 × zH)) (a0 : Nat) (x1 : Int32) (x2 : Int32) (x3 : Int32) (x4 : Int32) (M : zH) : Option (Int32 × zH) :=
  if x3 = x1 then
    if x4 ≤ x2 then
      F_Mo_findPlaced_b109 n E S r18 a0 x1 x2 x3 x4 M
    else
      F_Mo_findPlaced_b110 n E S r18 a0 x1 x2 x3 x4 1 M
  else
    F_Mo_findPlaced_b109 n E S r18 a0 x1 x2 x3 x4 M
def F_Mo_findPlaced_L54 (n : Nat) (E : zE) (S : zS) (r18 : Nat × Int32 × Int32 × Int32 × zH → Option (Int32 × zH)) (r54 : Nat × Int32 × Int32 × Int32 × Int32 × Int32 × zH → Option (Int32 × zH)) (a0 : Nat) (x1 : Int32) (x2 : Int32) (x3 : Int32) (x4 : Int32) (x5 : Int32) (M : zH) : Option (Int32 × zH) :=
  if x1 ≤ x5 then
    F_Mo_findPlaced_b94 n E S r18 a0 x1 x2 x3 x4 M
  else
    if x3 = x1 then
      (zgR S a0 11 42).bind fun b_12 =>
      (zgR S a0 11 43).bind fun b_13 =>
      (zldI S M b_13 x5).bind fun v_14 =>
      (zldI S M b_12 ((8 * x5) + v_14)).bind fun v_15 =>
      r54 (a0, x1, x2, x3, x4 + v_15, x5 + 1, M)
    else
      F_Mo_findPlaced_b94 n E S r18 a0 x1 x2 x3 x4 M
def F_Mo_findPlaced_b54 (n : Nat) (E : zE) (S : zS) (r18 : Nat × Int32 × Int32 × Int32 × zH → Option (Int32 × zH)) : Nat × Int32 × Int32 × Int32 × Int32 × Int32 × zH → Option (Int32 × zH) := zfix (fun r54 s => F_Mo_findPlaced_L54 n E S r18 r54 s.1 s.2.1 s.2.2.1 s.2.2.2.1 s.2.2.2.2.1 s.2.2.2.2.2.1 s.2.2.2.2.2.2) n
def F_Mo_findPlaced_b48 (n : Nat) (E : zE) (S : zS) (r18 : Nat × Int32 × Int32 × Int32 × zH → Option (Int32 × zH)) (a0 : Nat) (x1 : Int32) (x2 : Int32) (x3 : Int32) (M : zH) : Option (Int32 × zH) :=
  F_Mo_findPlaced_b54 n E S r18 (a0, x1, x2, x3, 0, 0, M)
def F_Mo_findPlaced_L18 (n : Nat) (E : zE) (S : zS) (r18 : Nat × Int32 × Int32 × Int32 × zH → Option (Int32 × zH)) (a0 : Nat) (x1 : Int32) (x2 : Int32) (x3 : Int32) (M : zH) : Option (Int32 × zH) :=
  if x3 < 0 then
    some (x2, M)
  else
    (zgR S a0 11 43).bind fun b_17 =>
    (zldI S M b_17 x3).bind fun v_18 =>
    (zstI S M b_17 x3 (v_18 + 1)).bind fun m_19 =>
    if x3 = x1 then
      F_Mo_findPlaced_b48 n E S r18 a0 x1 x2 x3 m_19
    else
      (zldI S m_19 b_17 x3).bind fun v_21 =>
      if v_21 < 8 then
        (F_Mo_isNew n E S a0 x3 m_19).bind fun q_23 =>
        if q_23.1 = true then
          (zstI S q_23.2 b_17 (x3 + 1) (-1)).bind fun m_25 =>
          r18 (a0, x1, x2, x3 + 1, m_25)
        else
          r18 (a0, x1, x2, x3, q_23.2)
      else
        F_Mo_findPlaced_b48 n E S r18 a0 x1 x2 x3 m_19
def F_Mo_findPlaced_b18 (n : Nat) (E : zE) (S : zS) : Nat × Int32 × Int32 × Int32 × zH → Option (Int32 × zH) := zfix (fun r18 s => F_Mo_findPlaced_L18 n E S r18 s.1 s.2.1 s.2.2.1 s.2.2.2.1 s.2.2.2.2) n
def F_Mo_findPlaced (n : Nat) (E : zE) (S : zS) (a0 : Nat) (M : zH) : Option (Int32 × zH) :=
  (zgR S a0 11 3).bind fun b_26 =>
  (zldI S M b_26 0).bind fun v_27 =>
  (zgR S a0 11 43).bind fun b_28 =>
  (zstI S M b_28 0 (-1)).bind fun m_29 =>
  F_Mo_findPlaced_b18 n E S (a0, v_27, (-1), 0, m_29)
theorem K_Mo_findPlaced_b157 (n : Nat) (E : zE) (S : zS) (r18 : Nat × Int32 × Int32 × Int32 × zH → Option (Int32 × zH)) (a0 : Nat) (x1 : Int32) (x3 : Int32) (s0 : Int32) (M : zH) (r : Int32) (M' : zH) (hr18 : ∀ (a0 : Nat) (x1 : Int32) (x2 : Int32) (x3 : Int32) (M : zH), r18 (a0, x1, x2, x3, M) = some (r, M') → zG E Y_Mo_findPlaced (some (.int r), S, M') 18 [(0, .ref a0), (1, .int x1), (2, .int x2), (3, .int x3)] [] S M 0 0) (h : F_Mo_findPlaced_b157 n E S r18 a0 x1 x3 s0 M = some (r, M')) : zG E Y_Mo_findPlaced (some (.int r), S, M') 157 [(0, .ref a0), (1, .int x1), (3, .int x3)] [.int s0] S M 0 0 := by
  unfold F_Mo_findPlaced_b157 at h
  refine zi_istore_n [(2, .int s0), (0, .ref a0), (1, .int x1), (3, .int x3)] d_Mo_findPlaced_157 (by decide) rfl ?_
  refine zi_iinc 3 (x3 + (-1)) [(3, .int (x3 + (-1))), (2, .int s0), (0, .ref a0), (1, .int x1)] d_Mo_findPlaced_158 rfl rfl (by decide) rfl ?_
  refine zi_goto (tgt := 18) d_Mo_findPlaced_161 rfl ?_
  refine zi_lo [(0, .ref a0), (1, .int x1), (2, .int s0), (3, .int (x3 + (-1)))] [2, 3, 1, 0] rfl ?_
  exact hr18 a0 x1 s0 (x3 + (-1)) M h
theorem K_Mo_findPlaced_b146 (n : Nat) (E : zE) (S : zS) (r18 : Nat × Int32 × Int32 × Int32 × zH → Option (Int32 × zH)) (a0 : Nat) (x1 : Int32) (x2 : Int32) (x3 : Int32) (x4 : Int32) (x5 : Int32) (M : zH) (r : Int32) (M' : zH) (hr18 : ∀ (a0 : Nat) (x1 : Int32) (x2 : Int32) (x3 : Int32) (M : zH), r18 (a0, x1, x2, x3, M) = some (r, M') → zG E Y_Mo_findPlaced (some (.int r), S, M') 18 [(0, .ref a0), (1, .int x1), (2, .int x2), (3, .int x3)] [] S M 0 0) (h : F_Mo_findPlaced_b146 n E S r18 a0 x1 x2 x3 x4 x5 M = some (r, M')) : zG E Y_Mo_findPlaced (some (.int r), S, M') 146 [(0, .ref a0), (1, .int x1), (2, .int x2), (3, .int x3), (4, .int x4), (5, .int x5)] [] S M 0 0 := by
  unfold F_Mo_findPlaced_b146 at h
  refine zi_iload 5 d_Mo_findPlaced_146 rfl ?_
  refine zi_if_eq (tgt := 156) d_Mo_findPlaced_148 rfl (fun c_1 => ?_) (fun c_1 => ?_)
  · rw [if_pos c_1] at h
    refine zi_iload_n 2 d_Mo_findPlaced_156 rfl ?_
    refine zi_lo [(0, .ref a0), (1, .int x1), (3, .int x3)] [0, 1, 3] rfl ?_
    exact K_Mo_findPlaced_b157 n E S r18 a0 x1 x3 x2 M r M' hr18 h
  · rw [if_neg c_1] at h
    refine zi_iload 4 d_Mo_findPlaced_151 rfl ?_
    refine zi_goto (tgt := 157) d_Mo_findPlaced_153 rfl ?_
    refine zi_lo [(0, .ref a0), (1, .int x1), (3, .int x3)] [0, 1, 3] rfl ?_
    exact K_Mo_findPlaced_b157 n E S r18 a0 x1 x3 x4 M r M' hr18 h
theorem K_Mo_findPlaced_L115 (n : Nat) (E : zE) (S : zS) (r18 : Nat × Int32 × Int32 × Int32 × zH → Option (Int32 × zH)) (r115 : Nat × Int32 × Int32 × Int32 × Int32 × Int32 × Int32 × zH → Option (Int32 × zH)) (a0 : Nat) (x1 : Int32) (x2 : Int32) (x3 : Int32) (x4 : Int32) (x5 : Int32) (x6 : Int32) (M : zH) (r : Int32) (M' : zH) (hr18 : ∀ (a0 : Nat) (x1 : Int32) (x2 : Int32) (x3 : Int32) (M : zH), r18 (a0, x1, x2, x3, M) = some (r, M') → zG E Y_Mo_findPlaced (some (.int r), S, M') 18 [(0, .ref a0), (1, .int x1), (2, .int x2), (3, .int x3)] [] S M 0 0) (hr115 : ∀ (a0 : Nat) (x1 : Int32) (x2 : Int32) (x3 : Int32) (x4 : Int32) (x5 : Int32) (x6 : Int32) (M : zH), r115 (a0, x1, x2, x3, x4, x5, x6, M) = some (r, M') → zG E Y_Mo_findPlaced (some (.int r), S, M') 115 [(0, .ref a0), (1, .int x1), (2, .int x2), (3, .int x3), (4, .int x4), (5, .int x5), (6, .int x6)] [] S M 0 0) (h : F_Mo_findPlaced_L115 n E S r18 r115 a0 x1 x2 x3 x4 x5 x6 M = some (r, M')) : zG E Y_Mo_findPlaced (some (.int r), S, M') 115 [(0, .ref a0), (1, .int x1), (2, .int x2), (3, .int x3), (4, .int x4), (5, .int x5), (6, .int x6)] [] S M 0 0 := by
  unfold F_Mo_findPlaced_L115 at h
  refine zi_iload 6 d_Mo_findPlaced_115 rfl ?_
  refine zi_iload_n 1 d_Mo_findPlaced_117 rfl ?_
  refine zi_icmp_ge (tgt := 146) d_Mo_findPlaced_118 rfl (fun c_2 => ?_) (fun c_2 => ?_)
  · rw [if_pos c_2] at h
    refine zi_lo [(0, .ref a0), (1, .int x1), (2, .int x2), (3, .int x3), (4, .int x4), (5, .int x5)] [0, 1, 2, 3, 4, 5] rfl ?_
    exact K_Mo_findPlaced_b146 n E S r18 a0 x1 x2 x3 x4 x5 M r M' hr18 h
  · rw [if_neg c_2] at h
    refine zi_iload 5 d_Mo_findPlaced_121 rfl ?_
    refine zi_if_eq (tgt := 146) d_Mo_findPlaced_123 rfl (fun c_3 => ?_) (fun c_3 => ?_)
    · rw [if_pos c_3] at h
      refine zi_lo [(0, .ref a0), (1, .int x1), (2, .int x2), (3, .int x3), (4, .int x4), (5, .int x5)] [0, 1, 2, 3, 4, 5] rfl ?_
      exact K_Mo_findPlaced_b146 n E S r18 a0 x1 x2 x3 x4 x5 M r M' hr18 h
    · rw [if_neg c_3] at h
      refine zi_aload_n 0 d_Mo_findPlaced_126 rfl ?_
      obtain ⟨b_4, eb_4, h⟩ := zbind h
      refine zo_getR 130 zkd_11 44 d_Mo_findPlaced_127 eb_4 rfl tw_1275 rfl ?_
      refine zi_iload 6 d_Mo_findPlaced_130 rfl ?_
      refine zi_aload_n 0 d_Mo_findPlaced_132 rfl ?_
      obtain ⟨b_5, eb_5, h⟩ := zbind h
      refine zo_getR 136 zkd_11 43 d_Mo_findPlaced_133 eb_5 rfl tw_1274 rfl ?_
      refine zi_iload 6 d_Mo_findPlaced_136 rfl ?_
      obtain ⟨v_6, ev_6, h⟩ := zbind h
      refine zo_iald 139 d_Mo_findPlaced_138 ev_6 rfl ?_
      obtain ⟨m_7, em_7, h⟩ := zbind h
      refine zo_iast 140 d_Mo_findPlaced_139 em_7 rfl ?_
      refine zi_iinc 6 (x6 + 1) [(6, .int (x6 + 1)), (0, .ref a0), (1, .int x1), (2, .int x2), (3, .int x3), (4, .int x4), (5, .int x5)] d_Mo_findPlaced_140 rfl rfl (by decide) rfl ?_
      refine zi_goto (tgt := 115) d_Mo_findPlaced_143 rfl ?_
      refine zi_lo [(0, .ref a0), (1, .int x1), (2, .int x2), (3, .int x3), (4, .int x4), (5, .int x5), (6, .int (x6 + 1))] [1, 2, 3, 4, 5, 6, 0] rfl ?_
      exact hr115 a0 x1 x2 x3 x4 x5 (x6 + 1) m_7 h
theorem K_Mo_findPlaced_b115 (n : Nat) (E : zE) (S : zS) (r18 : Nat × Int32 × Int32 × Int32 × zH → Option (Int32 × zH)) (a0 : Nat) (x1 : Int32) (x2 : Int32) (x3 : Int32) (x4 : Int32) (x5 : Int32) (x6 : Int32) (M : zH) (r : Int32) (M' : zH) (hr18 : ∀ (a0 : Nat) (x1 : Int32) (x2 : Int32) (x3 : Int32) (M : zH), r18 (a0, x1, x2, x3, M) = some (r, M') → zG E Y_Mo_findPlaced (some (.int r), S, M') 18 [(0, .ref a0), (1, .int x1), (2, .int x2), (3, .int x3)] [] S M 0 0) (h : F_Mo_findPlaced_b115 n E S r18 (a0, x1, x2, x3, x4, x5, x6, M) = some (r, M')) : zG E Y_Mo_findPlaced (some (.int r), S, M') 115 [(0, .ref a0), (1, .int x1), (2, .int x2), (3, .int x3), (4, .int x4), (5, .int x5), (6, .int x6)] [] S M 0 0 := by
  have key : ∀ (k : Nat) (a0 : Nat) (x1 : Int32) (x2 : Int32) (x3 : Int32) (x4 : Int32) (x5 : Int32) (x6 : Int32) (M : zH), zfix (fun r115 s => F_Mo_findPlaced_L115 n E S r18 r115 s.1 s.2.1 s.2.2.1 s.2.2.2.1 s.2.2.2.2.1 s.2.2.2.2.2.1 s.2.2.2.2.2.2.1 s.2.2.2.2.2.2.2) k (a0, x1, x2, x3, x4, x5, x6, M) = some (r, M') → zG E Y_Mo_findPlaced (some (.int r), S, M') 115 [(0, .ref a0), (1, .int x1), (2, .int x2), (3, .int x3), (4, .int x4), (5, .int x5), (6, .int x6)] [] S M 0 0 := by
    intro k
    induction k with
    | zero => intro a0 x1 x2 x3 x4 x5 x6 M h; cases h
    | succ k ih => intro a0 x1 x2 x3 x4 x5 x6 M h; exact K_Mo_findPlaced_L115 n E S r18 _ a0 x1 x2 x3 x4 x5 x6 M r M' hr18 (fun a0 x1 x2 x3 x4 x5 x6 M h => ih a0 x1 x2 x3 x4 x5 x6 M h) h
  exact key n a0 x1 x2 x3 x4 x5 x6 M h
theorem K_Mo_findPlaced_b110 (n : Nat) (E : zE) (S : zS) (r18 : Nat × Int32 × Int32 × Int32 × zH → Option (Int32 × zH)) (a0 : Nat) (x1 : Int32) (x2 : Int32) (x3 : Int32) (x4 : Int32) (s0 : Int32) (M : zH) (r : Int32) (M' : zH) (hr18 : ∀ (a0 : Nat) (x1 : Int32) (x2 : Int32) (x3 : Int32) (M : zH), r18 (a0, x1, x2, x3, M) = some (r, M') → zG E Y_Mo_findPlaced (some (.int r), S, M') 18 [(0, .ref a0), (1, .int x1), (2, .int x2), (3, .int x3)] [] S M 0 0) (h : F_Mo_findPlaced_b110 n E S r18 a0 x1 x2 x3 x4 s0 M = some (r, M')) : zG E Y_Mo_findPlaced (some (.int r), S, M') 110 [(0, .ref a0), (1, .int x1), (2, .int x2), (3, .int x3), (4, .int x4)] [.int s0] S M 0 0 := by
  unfold F_Mo_findPlaced_b110 at h
  refine zi_istore [(5, .int s0), (0, .ref a0), (1, .int x1), (2, .int x2), (3, .int x3), (4, .int x4)] d_Mo_findPlaced_110 (by decide) rfl ?_
  refine zi_iconst 0 d_Mo_findPlaced_112 rfl ?_
  refine zi_istore [(6, .int 0), (5, .int s0), (0, .ref a0), (1, .int x1), (2, .int x2), (3, .int x3), (4, .int x4)] d_Mo_findPlaced_113 (by decide) rfl ?_
  refine zi_lo [(0, .ref a0), (1, .int x1), (2, .int x2), (3, .int x3), (4, .int x4), (5, .int s0), (6, .int 0)] [2, 3, 4, 5, 6, 1, 0] rfl ?_
  exact K_Mo_findPlaced_b115 n E S r18 a0 x1 x2 x3 x4 s0 0 M r M' hr18 h
theorem K_Mo_findPlaced_b109 (n : Nat) (E : zE) (S : zS) (r18 : Nat × Int32 × Int32 × Int32 × zH → Option (Int32 × zH)) (a0 : Nat) (x1 : Int32) (x2 : Int32) (x3 : Int32) (x4 : Int32) (M : zH) (r : Int32) (M' : zH) (hr18 : ∀ (a0 : Nat) (x1 : Int32) (x2 : Int32) (x3 : Int32) (M : zH), r18 (a0, x1, x2, x3, M) = some (r, M') → zG E Y_Mo_findPlaced (some (.int r), S, M') 18 [(0, .ref a0), (1, .int x1), (2, .int x2), (3, .int x3)] [] S M 0 0) (h : F_Mo_findPlaced_b109 n E S r18 a0 x1 x2 x3 x4 M = some (r, M')) : zG E Y_Mo_findPlaced (some (.int r), S, M') 109 [(0, .ref a0), (1, .int x1), (2, .int x2), (3, .int x3), (4, .int x4)] [] S M 0 0 := by
  unfold F_Mo_findPlaced_b109 at h
  refine zi_iconst 0 d_Mo_findPlaced_109 rfl ?_
  refine zi_lo [(0, .ref a0), (1, .int x1), (2, .int x2), (3, .int x3), (4, .int x4)] [0, 1, 2, 3, 4] rfl ?_
  exact K_Mo_findPlaced_b110 n E S r18 a0 x1 x2 x3 x4 0 M r M' hr18 h
theorem K_Mo_findPlaced_b94 (n : Nat) (E : zE) (S : zS) (r18 : Nat × Int32 × Int32 × Int32 × zH → Option (Int32 × zH)) (a0 : Nat) (x1 : Int32) (x2 : Int32) (x3 : Int32) (x4 : Int32) (M : zH) (r : Int32) (M' : zH) (hr18 : ∀ (a0 : Nat) (x1 : Int32) (x2 : Int32) (x3 : Int32) (M : zH), r18 (a0, x1, x2, x3, M) = some (r, M') → zG E Y_Mo_findPlaced (some (.int r), S, M') 18 [(0, .ref a0), (1, .int x1), (2, .int x2), (3, .int x3)] [] S M 0 0) (h : F_Mo_findPlaced_b94 n E S r18 a0 x1 x2 x3 x4 M = some (r, M')) : zG E Y_Mo_findPlaced (some (.int r), S, M') 94 [(0, .ref a0), (1, .int x1), (2, .int x2), (3, .int x3), (4, .int x4)] [] S M 0 0 := by
  unfold F_Mo_findPlaced_b94 at h
  refine zi_iload_n 3 d_Mo_findPlaced_94 rfl ?_
  refine zi_iload_n 1 d_Mo_findPlaced_95 rfl ?_
  refine zi_icmp_ne (tgt := 109) d_Mo_findPlaced_96 rfl (fun c_8 => ?_) (fun c_8 => ?_)
  · rw [if_neg c_8] at h
    refine zi_lo [(0, .ref a0), (1, .int x1), (2, .int x2), (3, .int x3), (4, .int x4)] [0, 1, 2, 3, 4] rfl ?_
    exact K_Mo_findPlaced_b109 n E S r18 a0 x1 x2 x3 x4 M r M' hr18 h
  · rw [if_pos c_8] at h
    refine zi_iload 4 d_Mo_findPlaced_99 rfl ?_
    refine zi_iload_n 2 d_Mo_findPlaced_101 rfl ?_
    refine zi_icmp_le (tgt := 109) d_Mo_findPlaced_102 rfl (fun c_9 => ?_) (fun c_9 => ?_)
    · rw [if_pos c_9] at h
      refine zi_lo [(0, .ref a0), (1, .int x1), (2, .int x2), (3, .int x3), (4, .int x4)] [0, 1, 2, 3, 4] rfl ?_
      exact K_Mo_findPlaced_b109 n E S r18 a0 x1 x2 x3 x4 M r M' hr18 h
    · rw [if_neg c_9] at h
      refine zi_iconst 1 d_Mo_findPlaced_105 rfl ?_
      refine zi_goto (tgt := 110) d_Mo_findPlaced_106 rfl ?_
      refine zi_lo [(0, .ref a0), (1, .int x1), (2, .int x2), (3, .int x3), (4, .int x4)] [0, 1, 2, 3, 4] rfl ?_
      exact K_Mo_findPlaced_b110 n E S r18 a0 x1 x2 x3 x4 1 M r M' hr18 h
theorem K_Mo_findPlaced_L54 (n : Nat) (E : zE) (S : zS) (r18 : Nat × Int32 × Int32 × Int32 × zH → Option (Int32 × zH)) (r54 : Nat × Int32 × Int32 × Int32 × Int32 × Int32 × zH → Option (Int32 × zH)) (a0 : Nat) (x1 : Int32) (x2 : Int32) (x3 : Int32) (x4 : Int32) (x5 : Int32) (M : zH) (r : Int32) (M' : zH) (hr18 : ∀ (a0 : Nat) (x1 : Int32) (x2 : Int32) (x3 : Int32) (M : zH), r18 (a0, x1, x2, x3, M) = some (r, M') → zG E Y_Mo_findPlaced (some (.int r), S, M') 18 [(0, .ref a0), (1, .int x1), (2, .int x2), (3, .int x3)] [] S M 0 0) (hr54 : ∀ (a0 : Nat) (x1 : Int32) (x2 : Int32) (x3 : Int32) (x4 : Int32) (x5 : Int32) (M : zH), r54 (a0, x1, x2, x3, x4, x5, M) = some (r, M') → zG E Y_Mo_findPlaced (some (.int r), S, M') 54 [(0, .ref a0), (1, .int x1), (2, .int x2), (3, .int x3), (4, .int x4), (5, .int x5)] [] S M 0 0) (h : F_Mo_findPlaced_L54 n E S r18 r54 a0 x1 x2 x3 x4 x5 M = some (r, M')) : zG E Y_Mo_findPlaced (some (.int r), S, M') 54 [(0, .ref a0), (1, .int x1), (2, .int x2), (3, .int x3), (4, .int x4), (5, .int x5)] [] S M 0 0 := by
  unfold F_Mo_findPlaced_L54 at h
  refine zi_iload 5 d_Mo_findPlaced_54 rfl ?_
  refine zi_iload_n 1 d_Mo_findPlaced_56 rfl ?_
  refine zi_icmp_ge (tgt := 94) d_Mo_findPlaced_57 rfl (fun c_10 => ?_) (fun c_10 => ?_)
  · rw [if_pos c_10] at h
    refine zi_lo [(0, .ref a0), (1, .int x1), (2, .int x2), (3, .int x3), (4, .int x4)] [0, 1, 2, 3, 4] rfl ?_
    exact K_Mo_findPlaced_b94 n E S r18 a0 x1 x2 x3 x4 M r M' hr18 h
  · rw [if_neg c_10] at h
    refine zi_iload_n 3 d_Mo_findPlaced_60 rfl ?_
    refine zi_iload_n 1 d_Mo_findPlaced_61 rfl ?_
    refine zi_icmp_ne (tgt := 94) d_Mo_findPlaced_62 rfl (fun c_11 => ?_) (fun c_11 => ?_)
    · rw [if_neg c_11] at h
      refine zi_lo [(0, .ref a0), (1, .int x1), (2, .int x2), (3, .int x3), (4, .int x4)] [0, 1, 2, 3, 4] rfl ?_
      exact K_Mo_findPlaced_b94 n E S r18 a0 x1 x2 x3 x4 M r M' hr18 h
    · rw [if_pos c_11] at h
      refine zi_iload 4 d_Mo_findPlaced_65 rfl ?_
      refine zi_aload_n 0 d_Mo_findPlaced_67 rfl ?_
      obtain ⟨b_12, eb_12, h⟩ := zbind h
      refine zo_getR 71 zkd_11 42 d_Mo_findPlaced_68 eb_12 rfl tw_1273 rfl ?_
      refine zi_bipush 8 d_Mo_findPlaced_71 rfl ?_
      refine zi_iload 5 d_Mo_findPlaced_73 rfl ?_
      refine zi_imul d_Mo_findPlaced_75 ?_
      refine zi_aload_n 0 d_Mo_findPlaced_76 rfl ?_
      obtain ⟨b_13, eb_13, h⟩ := zbind h
      refine zo_getR 80 zkd_11 43 d_Mo_findPlaced_77 eb_13 rfl tw_1274 rfl ?_
      refine zi_iload 5 d_Mo_findPlaced_80 rfl ?_
      obtain ⟨v_14, ev_14, h⟩ := zbind h
      refine zo_iald 83 d_Mo_findPlaced_82 ev_14 rfl ?_
      refine zi_iadd d_Mo_findPlaced_83 ?_
      obtain ⟨v_15, ev_15, h⟩ := zbind h
      refine zo_iald 85 d_Mo_findPlaced_84 ev_15 rfl ?_
      refine zi_iadd d_Mo_findPlaced_85 ?_
      refine zi_istore [(4, .int (x4 + v_15)), (0, .ref a0), (1, .int x1), (2, .int x2), (3, .int x3), (5, .int x5)] d_Mo_findPlaced_86 (by decide) rfl ?_
      refine zi_iinc 5 (x5 + 1) [(5, .int (x5 + 1)), (4, .int (x4 + v_15)), (0, .ref a0), (1, .int x1), (2, .int x2), (3, .int x3)] d_Mo_findPlaced_88 rfl rfl (by decide) rfl ?_
      refine zi_goto (tgt := 54) d_Mo_findPlaced_91 rfl ?_
      refine zi_lo [(0, .ref a0), (1, .int x1), (2, .int x2), (3, .int x3), (4, .int (x4 + v_15)), (5, .int (x5 + 1))] [2, 3, 4, 5, 1, 0] rfl ?_
      exact hr54 a0 x1 x2 x3 (x4 + v_15) (x5 + 1) M h
theorem K_Mo_findPlaced_b54 (n : Nat) (E : zE) (S : zS) (r18 : Nat × Int32 × Int32 × Int32 × zH → Option (Int32 × zH)) (a0 : Nat) (x1 : Int32) (x2 : Int32) (x3 : Int32) (x4 : Int32) (x5 : Int32) (M : zH) (r : Int32) (M' : zH) (hr18 : ∀ (a0 : Nat) (x1 : Int32) (x2 : Int32) (x3 : Int32) (M : zH), r18 (a0, x1, x2, x3, M) = some (r, M') → zG E Y_Mo_findPlaced (some (.int r), S, M') 18 [(0, .ref a0), (1, .int x1), (2, .int x2), (3, .int x3)] [] S M 0 0) (h : F_Mo_findPlaced_b54 n E S r18 (a0, x1, x2, x3, x4, x5, M) = some (r, M')) : zG E Y_Mo_findPlaced (some (.int r), S, M') 54 [(0, .ref a0), (1, .int x1), (2, .int x2), (3, .int x3), (4, .int x4), (5, .int x5)] [] S M 0 0 := by
  have key : ∀ (k : Nat) (a0 : Nat) (x1 : Int32) (x2 : Int32) (x3 : Int32) (x4 : Int32) (x5 : Int32) (M : zH), zfix (fun r54 s => F_Mo_findPlaced_L54 n E S r18 r54 s.1 s.2.1 s.2.2.1 s.2.2.2.1 s.2.2.2.2.1 s.2.2.2.2.2.1 s.2.2.2.2.2.2) k (a0, x1, x2, x3, x4, x5, M) = some (r, M') → zG E Y_Mo_findPlaced (some (.int r), S, M') 54 [(0, .ref a0), (1, .int x1), (2, .int x2), (3, .int x3), (4, .int x4), (5, .int x5)] [] S M 0 0 := by
    intro k
    induction k with
    | zero => intro a0 x1 x2 x3 x4 x5 M h; cases h
    | succ k ih => intro a0 x1 x2 x3 x4 x5 M h; exact K_Mo_findPlaced_L54 n E S r18 _ a0 x1 x2 x3 x4 x5 M r M' hr18 (fun a0 x1 x2 x3 x4 x5 M h => ih a0 x1 x2 x3 x4 x5 M h) h
  exact key n a0 x1 x2 x3 x4 x5 M h
theorem K_Mo_findPlaced_b48 (n : Nat) (E : zE) (S : zS) (r18 : Nat × Int32 × Int32 × Int32 × zH → Option (Int32 × zH)) (a0 : Nat) (x1 : Int32) (x2 : Int32) (x3 : Int32) (M : zH) (r : Int32) (M' : zH) (hr18 : ∀ (a0 : Nat) (x1 : Int32) (x2 : Int32) (x3 : Int32) (M : zH), r18 (a0, x1, x2, x3, M) = some (r, M') → zG E Y_Mo_findPlaced (some (.int r), S, M') 18 [(0, .ref a0), (1, .int x1), (2, .int x2), (3, .int x3)] [] S M 0 0) (h : F_Mo_findPlaced_b48 n E S r18 a0 x1 x2 x3 M = some (r, M')) : zG E Y_Mo_findPlaced (some (.int r), S, M') 48 [(0, .ref a0), (1, .int x1), (2, .int x2), (3, .int x3)] [] S M 0 0 := by
  unfold F_Mo_findPlaced_b48 at h
  refine zi_iconst 0 d_Mo_findPlaced_48 rfl ?_
  refine zi_istore [(4, .int 0), (0, .ref a0), (1, .int x1), (2, .int x2), (3, .int x3)] d_Mo_findPlaced_49 (by decide) rfl ?_
  refine zi_iconst 0 d_Mo_findPlaced_51 rfl ?_
  refine zi_istore [(5, .int 0), (4, .int 0), (0, .ref a0), (1, .int x1), (2, .int x2), (3, .int x3)] d_Mo_findPlaced_52 (by decide) rfl ?_
  refine zi_lo [(0, .ref a0), (1, .int x1), (2, .int x2), (3, .int x3), (4, .int 0), (5, .int 0)] [2, 3, 4, 5, 1, 0] rfl ?_
  exact K_Mo_findPlaced_b54 n E S r18 a0 x1 x2 x3 0 0 M r M' hr18 h
theorem K_Mo_findPlaced_L18 (n : Nat) (E : zE) (S : zS) (r18 : Nat × Int32 × Int32 × Int32 × zH → Option (Int32 × zH)) (a0 : Nat) (x1 : Int32) (x2 : Int32) (x3 : Int32) (M : zH) (r : Int32) (M' : zH) (hr18 : ∀ (a0 : Nat) (x1 : Int32) (x2 : Int32) (x3 : Int32) (M : zH), r18 (a0, x1, x2, x3, M) = some (r, M') → zG E Y_Mo_findPlaced (some (.int r), S, M') 18 [(0, .ref a0), (1, .int x1), (2, .int x2), (3, .int x3)] [] S M 0 0) (h : F_Mo_findPlaced_L18 n E S r18 a0 x1 x2 x3 M = some (r, M')) : zG E Y_Mo_findPlaced (some (.int r), S, M') 18 [(0, .ref a0), (1, .int x1), (2, .int x2), (3, .int x3)] [] S M 0 0 := by
  unfold F_Mo_findPlaced_L18 at h
  refine zi_iload_n 3 d_Mo_findPlaced_18 rfl ?_
  refine zi_if_lt (tgt := 185) d_Mo_findPlaced_19 rfl (fun c_16 => ?_) (fun c_16 => ?_)
  · rw [if_pos c_16] at h
    refine zi_iload_n 2 d_Mo_findPlaced_185 rfl ?_
    cases h
    exact zo_ret d_Mo_findPlaced_186 (Nat.le_of_ble_eq_true rfl) (Nat.le_of_ble_eq_true rfl) rfl
  · rw [if_neg c_16] at h
    refine zi_aload_n 0 d_Mo_findPlaced_22 rfl ?_
    obtain ⟨b_17, eb_17, h⟩ := zbind h
    refine zo_getR 26 zkd_11 43 d_Mo_findPlaced_23 eb_17 rfl tw_1274 rfl ?_
    refine zi_iload_n 3 d_Mo_findPlaced_26 rfl ?_
    refine zi_dup2 d_Mo_findPlaced_27 rfl rfl ?_
    obtain ⟨v_18, ev_18, h⟩ := zbind h
    refine zo_iald 29 d_Mo_findPlaced_28 ev_18 rfl ?_
    refine zi_iconst 1 d_Mo_findPlaced_29 rfl ?_
    refine zi_iadd d_Mo_findPlaced_30 ?_
    obtain ⟨m_19, em_19, h⟩ := zbind h
    refine zo_iast 32 d_Mo_findPlaced_31 em_19 rfl ?_
    refine zi_iload_n 3 d_Mo_findPlaced_32 rfl ?_
    refine zi_iload_n 1 d_Mo_findPlaced_33 rfl ?_
    refine zi_icmp_eq (tgt := 48) d_Mo_findPlaced_34 rfl (fun c_20 => ?_) (fun c_20 => ?_)
    · rw [if_pos c_20] at h
      refine zi_lo [(0, .ref a0), (1, .int x1), (2, .int x2), (3, .int x3)] [0, 1, 2, 3] rfl ?_
      exact K_Mo_findPlaced_b48 n E S r18 a0 x1 x2 x3 m_19 r M' hr18 h
    · rw [if_neg c_20] at h
      refine zi_aload_n 0 d_Mo_findPlaced_37 rfl ?_
      refine zo_getR 41 zkd_11 43 d_Mo_findPlaced_38 eb_17 rfl tw_1274 rfl ?_
      refine zi_iload_n 3 d_Mo_findPlaced_41 rfl ?_
      obtain ⟨v_21, ev_21, h⟩ := zbind h
      refine zo_iald 43 d_Mo_findPlaced_42 ev_21 rfl ?_
      refine zi_bipush 8 d_Mo_findPlaced_43 rfl ?_
      refine zi_icmp_lt (tgt := 164) d_Mo_findPlaced_45 rfl (fun c_22 => ?_) (fun c_22 => ?_)
      · rw [if_pos c_22] at h
        refine zi_aload_n 0 d_Mo_findPlaced_164 rfl ?_
        refine zi_iload_n 3 d_Mo_findPlaced_165 rfl ?_
        obtain ⟨q_23, eq_23, h⟩ := zbind h
        refine zo_virt (k' := 0) (n' := 0) 169 [.int x3] [] [.int (bI q_23.1)] zkd_11 (zgR_s eb_17).1 (C_Mo_isNew n E S a0 x3 m_19 q_23.1 q_23.2 eq_23) d_Mo_findPlaced_166 tw_1766 tw_1763 tw_1765 ts_90 tw_13 dd_Mo_isNew ⟨Nat.le_of_ble_eq_true rfl, Nat.le_of_ble_eq_true rfl, Nat.le_of_ble_eq_true rfl, Nat.le_of_ble_eq_true rfl⟩ (Nat.le_of_ble_eq_true rfl) rfl rfl rfl rfl ?_
        refine zo_ifeqB d_Mo_findPlaced_169 rfl 172 rfl (fun c_24 => ?_) (fun c_24 => ?_)
        · rw [if_neg c_24] at h
          refine zi_lo [(0, .ref a0), (1, .int x1), (2, .int x2), (3, .int x3)] [0, 1, 2, 3] rfl ?_
          exact hr18 a0 x1 x2 x3 q_23.2 h
        · rw [if_pos c_24] at h
          refine zi_iinc 3 (x3 + 1) [(3, .int (x3 + 1)), (0, .ref a0), (1, .int x1), (2, .int x2)] d_Mo_findPlaced_172 rfl rfl (by decide) rfl ?_
          refine zi_aload_n 1 d_Mo_findPlaced_175 rfl ?_
          refine zo_getR 179 zkd_11 43 d_Mo_findPlaced_176 eb_17 rfl tw_1274 rfl ?_
          refine zi_iload_n 0 d_Mo_findPlaced_179 rfl ?_
          refine zi_iconst (-1) d_Mo_findPlaced_180 rfl ?_
          obtain ⟨m_25, em_25, h⟩ := zbind h
          refine zo_iast 182 d_Mo_findPlaced_181 em_25 rfl ?_
          refine zi_goto (tgt := 18) d_Mo_findPlaced_182 rfl ?_
          refine zi_lo [(0, .ref a0), (1, .int x1), (2, .int x2), (3, .int (x3 + 1))] [1, 2, 3, 0] rfl ?_
          exact hr18 a0 x1 x2 (x3 + 1) m_25 h
      · rw [if_neg c_22] at h
        refine zi_lo [(0, .ref a0), (1, .int x1), (2, .int x2), (3, .int x3)] [0, 1, 2, 3] rfl ?_
        exact K_Mo_findPlaced_b48 n E S r18 a0 x1 x2 x3 m_19 r M' hr18 h
theorem K_Mo_findPlaced_b18 (n : Nat) (E : zE) (S : zS) (a0 : Nat) (x1 : Int32) (x2 : Int32) (x3 : Int32) (M : zH) (r : Int32) (M' : zH)  (h : F_Mo_findPlaced_b18 n E S (a0, x1, x2, x3, M) = some (r, M')) : zG E Y_Mo_findPlaced (some (.int r), S, M') 18 [(0, .ref a0), (1, .int x1), (2, .int x2), (3, .int x3)] [] S M 0 0 := by
  have key : ∀ (k : Nat) (a0 : Nat) (x1 : Int32) (x2 : Int32) (x3 : Int32) (M : zH), zfix (fun r18 s => F_Mo_findPlaced_L18 n E S r18 s.1 s.2.1 s.2.2.1 s.2.2.2.1 s.2.2.2.2) k (a0, x1, x2, x3, M) = some (r, M') → zG E Y_Mo_findPlaced (some (.int r), S, M') 18 [(0, .ref a0), (1, .int x1), (2, .int x2), (3, .int x3)] [] S M 0 0 := by
    intro k
    induction k with
    | zero => intro a0 x1 x2 x3 M h; cases h
    | succ k ih => intro a0 x1 x2 x3 M h; exact K_Mo_findPlaced_L18 n E S _ a0 x1 x2 x3 M r M'  (fun a0 x1 x2 x3 M h => ih a0 x1 x2 x3 M h) h
  exact key n a0 x1 x2 x3 M h
theorem K_Mo_findPlaced (n : Nat) (E : zE) (S : zS) (a0 : Nat) (M : zH) (r : Int32) (M' : zH)  (h : F_Mo_findPlaced n E S a0 M = some (r, M')) : zG E Y_Mo_findPlaced (some (.int r), S, M') 0 [(0, .ref a0)] [] S M 0 0 := by
  unfold F_Mo_findPlaced at h
  refine zi_aload_n 0 d_Mo_findPlaced_0 rfl ?_
  obtain ⟨b_26, eb_26, h⟩ := zbind h
  refine zo_getR 4 zkd_11 3 d_Mo_findPlaced_1 eb_26 rfl tw_1234 rfl ?_
  refine zi_iconst 0 d_Mo_findPlaced_4 rfl ?_
  obtain ⟨v_27, ev_27, h⟩ := zbind h
  refine zo_iald 6 d_Mo_findPlaced_5 ev_27 rfl ?_
  refine zi_istore_n [(1, .int v_27), (0, .ref a0)] d_Mo_findPlaced_6 (by decide) rfl ?_
  refine zi_iconst (-1) d_Mo_findPlaced_7 rfl ?_
  refine zi_istore_n [(2, .int (-1)), (1, .int v_27), (0, .ref a0)] d_Mo_findPlaced_8 (by decide) rfl ?_
  refine zi_iconst 0 d_Mo_findPlaced_9 rfl ?_
  refine zi_istore_n [(3, .int 0), (2, .int (-1)), (1, .int v_27), (0, .ref a0)] d_Mo_findPlaced_10 (by decide) rfl ?_
  refine zi_aload_n 3 d_Mo_findPlaced_11 rfl ?_
  obtain ⟨b_28, eb_28, h⟩ := zbind h
  refine zo_getR 15 zkd_11 43 d_Mo_findPlaced_12 eb_28 rfl tw_1274 rfl ?_
  refine zi_iconst 0 d_Mo_findPlaced_15 rfl ?_
  refine zi_iconst (-1) d_Mo_findPlaced_16 rfl ?_
  obtain ⟨m_29, em_29, h⟩ := zbind h
  refine zo_iast 18 d_Mo_findPlaced_17 em_29 rfl ?_
  refine zi_lo [(0, .ref a0), (1, .int v_27), (2, .int (-1)), (3, .int 0)] [3, 2, 1, 0] rfl ?_
  exact K_Mo_findPlaced_b18 n E S a0 v_27 (-1) 0 m_29 r M'  h
theorem C_Mo_findPlaced (n : Nat) (E : zE) (S : zS) (a0 : Nat) (M : zH) (r : Int32) (M' : zH) (h : F_Mo_findPlaced n E S a0 M = some (r, M')) : zC E Y_Mo_findPlaced [.ref a0] S M (some (.int r), S, M') :=
  zC.of (Or.inl (show plainName "NightColanderModel" = true by decide)) (Nat.le_of_ble_eq_true rfl) (trivial) (K_Mo_findPlaced n E S a0 M r M' h)
theorem d_Mo_layCaught_0 : decode (yB Y_Mo_layCaught) 0 = .ok (.iconst 0, 1) := by decide +kernel
theorem d_Mo_layCaught_1 : decode (yB Y_Mo_layCaught) 1 = .ok (.istore_n 2, 1) := by decide +kernel
theorem d_Mo_layCaught_2 : decode (yB Y_Mo_layCaught) 2 = .ok (.iload_n 2, 1) := by decide +kernel
theorem d_Mo_layCaught_3 : decode (yB Y_Mo_layCaught) 3 = .ok (.bipush 24, 2) := by decide +kernel
theorem d_Mo_layCaught_5 : decode (yB Y_Mo_layCaught) 5 = .ok (.if_icmp .ge 16, 3) := by decide +kernel
theorem d_Mo_layCaught_8 : decode (yB Y_Mo_layCaught) 8 = .ok (.aload_n 0, 1) := by decide +kernel
theorem d_Mo_layCaught_9 : decode (yB Y_Mo_layCaught) 9 = .ok (.getfield 115, 3) := by decide +kernel
theorem d_Mo_layCaught_12 : decode (yB Y_Mo_layCaught) 12 = .ok (.iload_n 2, 1) := by decide +kernel
theorem d_Mo_layCaught_13 : decode (yB Y_Mo_layCaught) 13 = .ok (.iconst (-1), 1) := by decide +kernel
theorem d_Mo_layCaught_14 : decode (yB Y_Mo_layCaught) 14 = .ok (.iastore, 1) := by decide +kernel
theorem d_Mo_layCaught_15 : decode (yB Y_Mo_layCaught) 15 = .ok (.iinc 2 1, 3) := by decide +kernel
theorem d_Mo_layCaught_18 : decode (yB Y_Mo_layCaught) 18 = .ok (.goto (-16), 3) := by decide +kernel
theorem d_Mo_layCaught_21 : decode (yB Y_Mo_layCaught) 21 = .ok (.iconst 0, 1) := by decide +kernel
theorem d_Mo_layCaught_22 : decode (yB Y_Mo_layCaught) 22 = .ok (.istore_n 2, 1) := by decide +kernel
theorem d_Mo_layCaught_23 : decode (yB Y_Mo_layCaught) 23 = .ok (.iload_n 2, 1) := by decide +kernel
theorem d_Mo_layCaught_24 : decode (yB Y_Mo_layCaught) 24 = .ok (.aload_n 0, 1) := by decide +kernel
theorem d_Mo_layCaught_25 : decode (yB Y_Mo_layCaught) 25 = .ok (.getfield 13, 3) := by decide +kernel
theorem d_Mo_layCaught_28 : decode (yB Y_Mo_layCaught) 28 = .ok (.iconst 0, 1) := by decide +kernel
theorem d_Mo_layCaught_29 : decode (yB Y_Mo_layCaught) 29 = .ok (.iaload, 1) := by decide +kernel
theorem d_Mo_layCaught_30 : decode (yB Y_Mo_layCaught) 30 = .ok (.if_icmp .ge 104, 3) := by decide +kernel
theorem d_Mo_layCaught_33 : decode (yB Y_Mo_layCaught) 33 = .ok (.iconst 0, 1) := by decide +kernel
theorem d_Mo_layCaught_34 : decode (yB Y_Mo_layCaught) 34 = .ok (.istore_n 3, 1) := by decide +kernel
theorem d_Mo_layCaught_35 : decode (yB Y_Mo_layCaught) 35 = .ok (.iload_n 3, 1) := by decide +kernel
theorem d_Mo_layCaught_36 : decode (yB Y_Mo_layCaught) 36 = .ok (.bipush 8, 2) := by decide +kernel
theorem d_Mo_layCaught_38 : decode (yB Y_Mo_layCaught) 38 = .ok (.if_icmp .ge 90, 3) := by decide +kernel
theorem d_Mo_layCaught_41 : decode (yB Y_Mo_layCaught) 41 = .ok (.aload_n 0, 1) := by decide +kernel
theorem d_Mo_layCaught_42 : decode (yB Y_Mo_layCaught) 42 = .ok (.iload_n 2, 1) := by decide +kernel
theorem d_Mo_layCaught_43 : decode (yB Y_Mo_layCaught) 43 = .ok (.iload_n 3, 1) := by decide +kernel
theorem d_Mo_layCaught_44 : decode (yB Y_Mo_layCaught) 44 = .ok (.invokevirtual 225, 3) := by decide +kernel
theorem d_Mo_layCaught_47 : decode (yB Y_Mo_layCaught) 47 = .ok (.ifCond .ne 75, 3) := by decide +kernel
theorem d_Mo_layCaught_50 : decode (yB Y_Mo_layCaught) 50 = .ok (.aload_n 0, 1) := by decide +kernel
theorem d_Mo_layCaught_51 : decode (yB Y_Mo_layCaught) 51 = .ok (.bipush 16, 2) := by decide +kernel
theorem d_Mo_layCaught_53 : decode (yB Y_Mo_layCaught) 53 = .ok (.invokevirtual 169, 3) := by decide +kernel
theorem d_Mo_layCaught_56 : decode (yB Y_Mo_layCaught) 56 = .ok (.aload_n 0, 1) := by decide +kernel
theorem d_Mo_layCaught_57 : decode (yB Y_Mo_layCaught) 57 = .ok (.getfield 13, 3) := by decide +kernel
theorem d_Mo_layCaught_60 : decode (yB Y_Mo_layCaught) 60 = .ok (.bipush 51, 2) := by decide +kernel
theorem d_Mo_layCaught_62 : decode (yB Y_Mo_layCaught) 62 = .ok (.iload_n 2, 1) := by decide +kernel
theorem d_Mo_layCaught_63 : decode (yB Y_Mo_layCaught) 63 = .ok (.iadd, 1) := by decide +kernel
theorem d_Mo_layCaught_64 : decode (yB Y_Mo_layCaught) 64 = .ok (.iload_n 3, 1) := by decide +kernel
theorem d_Mo_layCaught_65 : decode (yB Y_Mo_layCaught) 65 = .ok (.iastore, 1) := by decide +kernel
theorem d_Mo_layCaught_66 : decode (yB Y_Mo_layCaught) 66 = .ok (.iconst 0, 1) := by decide +kernel
theorem d_Mo_layCaught_67 : decode (yB Y_Mo_layCaught) 67 = .ok (.istore 4, 2) := by decide +kernel
theorem d_Mo_layCaught_69 : decode (yB Y_Mo_layCaught) 69 = .ok (.iconst 0, 1) := by decide +kernel
theorem d_Mo_layCaught_70 : decode (yB Y_Mo_layCaught) 70 = .ok (.istore 5, 2) := by decide +kernel
theorem d_Mo_layCaught_72 : decode (yB Y_Mo_layCaught) 72 = .ok (.iload 5, 2) := by decide +kernel
theorem d_Mo_layCaught_74 : decode (yB Y_Mo_layCaught) 74 = .ok (.iload_n 1, 1) := by decide +kernel
theorem d_Mo_layCaught_75 : decode (yB Y_Mo_layCaught) 75 = .ok (.if_icmp .ge 28, 3) := by decide +kernel
theorem d_Mo_layCaught_78 : decode (yB Y_Mo_layCaught) 78 = .ok (.iload 4, 2) := by decide +kernel
theorem d_Mo_layCaught_80 : decode (yB Y_Mo_layCaught) 80 = .ok (.aload_n 0, 1) := by decide +kernel
theorem d_Mo_layCaught_81 : decode (yB Y_Mo_layCaught) 81 = .ok (.iload_n 2, 1) := by decide +kernel
theorem d_Mo_layCaught_82 : decode (yB Y_Mo_layCaught) 82 = .ok (.aload_n 0, 1) := by decide +kernel
theorem d_Mo_layCaught_83 : decode (yB Y_Mo_layCaught) 83 = .ok (.iload_n 3, 1) := by decide +kernel
theorem d_Mo_layCaught_84 : decode (yB Y_Mo_layCaught) 84 = .ok (.invokevirtual 232, 3) := by decide +kernel
theorem d_Mo_layCaught_87 : decode (yB Y_Mo_layCaught) 87 = .ok (.invokevirtual 460, 3) := by decide +kernel
theorem d_Mo_layCaught_90 : decode (yB Y_Mo_layCaught) 90 = .ok (.iadd, 1) := by decide +kernel
theorem d_Mo_layCaught_91 : decode (yB Y_Mo_layCaught) 91 = .ok (.istore 4, 2) := by decide +kernel
theorem d_Mo_layCaught_93 : decode (yB Y_Mo_layCaught) 93 = .ok (.aload_n 0, 1) := by decide +kernel
theorem d_Mo_layCaught_94 : decode (yB Y_Mo_layCaught) 94 = .ok (.invokevirtual 463, 3) := by decide +kernel
theorem d_Mo_layCaught_97 : decode (yB Y_Mo_layCaught) 97 = .ok (.iinc 5 1, 3) := by decide +kernel
theorem d_Mo_layCaught_100 : decode (yB Y_Mo_layCaught) 100 = .ok (.goto (-28), 3) := by decide +kernel
theorem d_Mo_layCaught_103 : decode (yB Y_Mo_layCaught) 103 = .ok (.aload_n 0, 1) := by decide +kernel
theorem d_Mo_layCaught_104 : decode (yB Y_Mo_layCaught) 104 = .ok (.bipush 16, 2) := by decide +kernel
theorem d_Mo_layCaught_106 : decode (yB Y_Mo_layCaught) 106 = .ok (.invokevirtual 173, 3) := by decide +kernel
theorem d_Mo_layCaught_109 : decode (yB Y_Mo_layCaught) 109 = .ok (.aload_n 0, 1) := by decide +kernel
theorem d_Mo_layCaught_110 : decode (yB Y_Mo_layCaught) 110 = .ok (.getfield 115, 3) := by decide +kernel
theorem d_Mo_layCaught_113 : decode (yB Y_Mo_layCaught) 113 = .ok (.bipush 8, 2) := by decide +kernel
theorem d_Mo_layCaught_115 : decode (yB Y_Mo_layCaught) 115 = .ok (.iload_n 2, 1) := by decide +kernel
theorem d_Mo_layCaught_116 : decode (yB Y_Mo_layCaught) 116 = .ok (.imul, 1) := by decide +kernel
theorem d_Mo_layCaught_117 : decode (yB Y_Mo_layCaught) 117 = .ok (.iload_n 3, 1) := by decide +kernel
theorem d_Mo_layCaught_118 : decode (yB Y_Mo_layCaught) 118 = .ok (.iadd, 1) := by decide +kernel
theorem d_Mo_layCaught_119 : decode (yB Y_Mo_layCaught) 119 = .ok (.iload 4, 2) := by decide +kernel
theorem d_Mo_layCaught_121 : decode (yB Y_Mo_layCaught) 121 = .ok (.iastore, 1) := by decide +kernel
theorem d_Mo_layCaught_122 : decode (yB Y_Mo_layCaught) 122 = .ok (.iinc 3 1, 3) := by decide +kernel
theorem d_Mo_layCaught_125 : decode (yB Y_Mo_layCaught) 125 = .ok (.goto (-90), 3) := by decide +kernel
theorem d_Mo_layCaught_128 : decode (yB Y_Mo_layCaught) 128 = .ok (.iinc 2 1, 3) := by decide +kernel
theorem d_Mo_layCaught_131 : decode (yB Y_Mo_layCaught) 131 = .ok (.goto (-108), 3) := by decide +kernel
theorem d_Mo_layCaught_134 : decode (yB Y_Mo_layCaught) 134 = .ok (.return_, 1) := by decide +kernel
def F_Mo_layCaught_b122 (n : Nat) (E : zE) (S : zS) (r23 : Nat × Int32 × Int32 × zH → Option (zH)) (r35 : Nat × Int32 × Int32 × Int32 × zH → Option (zH)) (a0 : Nat) (x1 : Int32) (x2 : Int32) (x3 : Int32) (M : zH) : Option (zH) :=
  r35 (a0, x1, x2, x3 + 1, M)
def F_Mo_layCaught_L72 (n : Nat) (E : zE) (S : zS) (r23 : Nat × Int32 × Int32 × zH → Option (zH)) (r35 : Nat × Int32 × Int32 × Int32 × zH → Option (zH)) (r72 : Nat × Int32 × Int32 × Int32 × Int32 × Int32 × zH → Option (zH)) (a0 : Nat) (x1 : Int32) (x2 : Int32) (x3 : Int32) (x4 : Int32) (x5 : Int32) (M : zH) : Option (zH) :=
  if x1 ≤ x5 then
    (zck S a0 11).bind fun u_2 =>
    (F_Mo_putBack n E S a0 16 M).bind fun q_3 =>
    (zgR S a0 11 42).bind fun b_4 =>
    (zstI S q_3 b_4 ((8 * x2) + x3) x4).bind fun m_5 =>
    F_Mo_layCaught_b122 n E S r23 r35 a0 x1 x2 x3 m_5
  else
    (zck S a0 11).bind fun u_6 =>
    (F_Mo_flowOn n E S a0 x3 M).bind fun q_7 =>
    (F_Mo_catchIn n E S a0 x2 q_7.1 q_7.2).bind fun q_8 =>
    (F_Mo_turnAll n E S a0 q_8.2).bind fun q_9 =>
    r72 (a0, x1, x2, x3, x4 + q_8.1, x5 + 1, q_9)
def F_Mo_layCaught_b72 (n : Nat) (E : zE) (S : zS) (r23 : Nat × Int32 × Int32 × zH → Option (zH)) (r35 : Nat × Int32 × Int32 × Int32 × zH → Option (zH)) : Nat × Int32 × Int32 × Int32 × Int32 × Int32 × zH → Option (zH) := zfix (fun r72 s => F_Mo_layCaught_L72 n E S r23 r35 r72 s.1 s.2.1 s.2.2.1 s.2.2.2.1 s.2.2.2.2.1 s.2.2.2.2.2.1 s.2.2.2.2.2.2) n
def F_Mo_layCaught_L35 (n : Nat) (E : zE) (S : zS) (r23 : Nat × Int32 × Int32 × zH → Option (zH)) (r35 : Nat × Int32 × Int32 × Int32 × zH → Option (zH)) (a0 : Nat) (x1 : Int32) (x2 : Int32) (x3 : Int32) (M : zH) : Option (zH) :=
  if 8 ≤ x3 then
    r23 (a0, x1, x2 + 1, M)
  else
    (zck S a0 11).bind fun u_11 =>
    (F_Mo_isBarred n E S a0 x2 x3 M).bind fun q_12 =>
    if q_12.1 = true then
      F_Mo_layCaught_b122 n E S r23 r35 a0 x1 x2 x3 q_12.2
    else
      (F_Mo_keepAll n E S a0 16 q_12.2).bind fun q_14 =>
      (zgR S a0 11 3).bind fun b_15 =>
      (zstI S q_14 b_15 (51 + x2) x3).bind fun m_16 =>
      F_Mo_layCaught_b72 n E S r23 r35 (a0, x1, x2, x3, 0, 0, m_16)
def F_Mo_layCaught_b35 (n : Nat) (E : zE) (S : zS) (r23 : Nat × Int32 × Int32 × zH → Option (zH)) : Nat × Int32 × Int32 × Int32 × zH → Option (zH) := zfix (fun r35 s => F_Mo_layCaught_L35 n E S r23 r35 s.1 s.2.1 s.2.2.1 s.2.2.2.1 s.2.2.2.2) n
def F_Mo_layCaught_L23 (n : Nat) (E : zE) (S : zS) (r23 : Nat × Int32 × Int32 × zH → Option (zH)) (a0 : Nat) (x1 : Int32) (x2 : Int32) (M : zH) : Option (zH) :=
  (zgR S a0 11 3).bind fun b_17 =>
  (zldI S M b_17 0).bind fun v_18 =>
  if v_18 ≤ x2 then
    some (M)
  else
    F_Mo_layCaught_b35 n E S r23 (a0, x1, x2, 0, M)
def F_Mo_layCaught_b23 (n : Nat) (E : zE) (S : zS) : Nat × Int32 × Int32 × zH → Option (zH) := zfix (fun r23 s => F_Mo_layCaught_L23 n E S r23 s.1 s.2.1 s.2.2.1 s.2.2.2) n
def F_Mo_layCaught_L2 (n : Nat) (E : zE) (S : zS) (r2 : Nat × Int32 × Int32 × zH → Option (zH)) (a0 : Nat) (x1 : Int32) (x2 : Int32) (M : zH) : Option (zH) :=
  if 24 ≤ x2 then
    F_Mo_layCaught_b23 n E S (a0, x1, 0, M)
  else
    (zgR S a0 11 42).bind fun b_21 =>
    (zstI S M b_21 x2 (-1)).bind fun m_22 =>
    r2 (a0, x1, x2 + 1, m_22)
def F_Mo_layCaught_b2 (n : Nat) (E : zE) (S : zS) : Nat × Int32 × Int32 × zH → Option (zH) := zfix (fun r2 s => F_Mo_layCaught_L2 n E S r2 s.1 s.2.1 s.2.2.1 s.2.2.2) n
def F_Mo_layCaught (n : Nat) (E : zE) (S : zS) (a0 : Nat) (x1 : Int32) (M : zH) : Option (zH) :=
  F_Mo_layCaught_b2 n E S (a0, x1, 0, M)
theorem K_Mo_layCaught_b122 (n : Nat) (E : zE) (S : zS) (r23 : Nat × Int32 × Int32 × zH → Option (zH)) (r35 : Nat × Int32 × Int32 × Int32 × zH → Option (zH)) (a0 : Nat) (x1 : Int32) (x2 : Int32) (x3 : Int32) (M : zH) (M' : zH) (hr23 : ∀ (a0 : Nat) (x1 : Int32) (x2 : Int32) (M : zH), r23 (a0, x1, x2, M) = some M' → zG E Y_Mo_layCaught (none, S, M') 23 [(0, .ref a0), (1, .int x1), (2, .int x2)] [] S M 0 0) (hr35 : ∀ (a0 : Nat) (x1 : Int32) (x2 : Int32) (x3 : Int32) (M : zH), r35 (a0, x1, x2, x3, M) = some M' → zG E Y_Mo_layCaught (none, S, M') 35 [(0, .ref a0), (1, .int x1), (2, .int x2), (3, .int x3)] [] S M 0 0) (h : F_Mo_layCaught_b122 n E S r23 r35 a0 x1 x2 x3 M = some M') : zG E Y_Mo_layCaught (none, S, M') 122 [(0, .ref a0), (1, .int x1), (2, .int x2), (3, .int x3)] [] S M 0 0 := by
  unfold F_Mo_layCaught_b122 at h
  refine zi_iinc 3 (x3 + 1) [(3, .int (x3 + 1)), (0, .ref a0), (1, .int x1), (2, .int x2)] d_Mo_layCaught_122 rfl rfl (by decide) rfl ?_
  refine zi_goto (tgt := 35) d_Mo_layCaught_125 rfl ?_
  refine zi_lo [(0, .ref a0), (1, .int x1), (2, .int x2), (3, .int (x3 + 1))] [1, 2, 3, 0] rfl ?_
  exact hr35 a0 x1 x2 (x3 + 1) M h
theorem K_Mo_layCaught_L72 (n : Nat) (E : zE) (S : zS) (r23 : Nat × Int32 × Int32 × zH → Option (zH)) (r35 : Nat × Int32 × Int32 × Int32 × zH → Option (zH)) (r72 : Nat × Int32 × Int32 × Int32 × Int32 × Int32 × zH → Option (zH)) (a0 : Nat) (x1 : Int32) (x2 : Int32) (x3 : Int32) (x4 : Int32) (x5 : Int32) (M : zH) (M' : zH) (hr23 : ∀ (a0 : Nat) (x1 : Int32) (x2 : Int32) (M : zH), r23 (a0, x1, x2, M) = some M' → zG E Y_Mo_layCaught (none, S, M') 23 [(0, .ref a0), (1, .int x1), (2, .int x2)] [] S M 0 0) (hr35 : ∀ (a0 : Nat) (x1 : Int32) (x2 : Int32) (x3 : Int32) (M : zH), r35 (a0, x1, x2, x3, M) = some M' → zG E Y_Mo_layCaught (none, S, M') 35 [(0, .ref a0), (1, .int x1), (2, .int x2), (3, .int x3)] [] S M 0 0) (hr72 : ∀ (a0 : Nat) (x1 : Int32) (x2 : Int32) (x3 : Int32) (x4 : Int32) (x5 : Int32) (M : zH), r72 (a0, x1, x2, x3, x4, x5, M) = some M' → zG E Y_Mo_layCaught (none, S, M') 72 [(0, .ref a0), (1, .int x1), (2, .int x2), (3, .int x3), (4, .int x4), (5, .int x5)] [] S M 0 0) (h : F_Mo_layCaught_L72 n E S r23 r35 r72 a0 x1 x2 x3 x4 x5 M = some M') : zG E Y_Mo_layCaught (none, S, M') 72 [(0, .ref a0), (1, .int x1), (2, .int x2), (3, .int x3), (4, .int x4), (5, .int x5)] [] S M 0 0 := by
  unfold F_Mo_layCaught_L72 at h
  refine zi_iload 5 d_Mo_layCaught_72 rfl ?_
  refine zi_iload_n 1 d_Mo_layCaught_74 rfl ?_
  refine zi_icmp_ge (tgt := 103) d_Mo_layCaught_75 rfl (fun c_1 => ?_) (fun c_1 => ?_)
  · rw [if_pos c_1] at h
    refine zi_aload_n 0 d_Mo_layCaught_103 rfl ?_
    refine zi_bipush 16 d_Mo_layCaught_104 rfl ?_
    obtain ⟨u_2, eu_2, h⟩ := zbind h
    obtain ⟨q_3, eq_3, h⟩ := zbind h
    refine zo_virt (k' := 0) (n' := 0) 109 [.int 16] [] [] zkd_11 (zck_s eu_2) (C_Mo_putBack n E S a0 16 M q_3 eq_3) d_Mo_layCaught_106 tw_1414 tw_1411 tw_1413 ts_37 tw_13 dd_Mo_putBack ⟨Nat.le_of_ble_eq_true rfl, Nat.le_of_ble_eq_true rfl, Nat.le_of_ble_eq_true rfl, Nat.le_of_ble_eq_true rfl⟩ (Nat.le_of_ble_eq_true rfl) rfl rfl rfl rfl ?_
    refine zi_aload_n 0 d_Mo_layCaught_109 rfl ?_
    obtain ⟨b_4, eb_4, h⟩ := zbind h
    refine zo_getR 113 zkd_11 42 d_Mo_layCaught_110 eb_4 rfl tw_1273 rfl ?_
    refine zi_bipush 8 d_Mo_layCaught_113 rfl ?_
    refine zi_iload_n 2 d_Mo_layCaught_115 rfl ?_
    refine zi_imul d_Mo_layCaught_116 ?_
    refine zi_iload_n 3 d_Mo_layCaught_117 rfl ?_
    refine zi_iadd d_Mo_layCaught_118 ?_
    refine zi_iload 4 d_Mo_layCaught_119 rfl ?_
    obtain ⟨m_5, em_5, h⟩ := zbind h
    refine zo_iast 122 d_Mo_layCaught_121 em_5 rfl ?_
    refine zi_lo [(0, .ref a0), (1, .int x1), (2, .int x2), (3, .int x3)] [0, 1, 2, 3] rfl ?_
    exact K_Mo_layCaught_b122 n E S r23 r35 a0 x1 x2 x3 m_5 M' hr23 hr35 h
  · rw [if_neg c_1] at h
    refine zi_iload 4 d_Mo_layCaught_78 rfl ?_
    refine zi_aload_n 0 d_Mo_layCaught_80 rfl ?_
    refine zi_iload_n 2 d_Mo_layCaught_81 rfl ?_
    refine zi_aload_n 0 d_Mo_layCaught_82 rfl ?_
    refine zi_iload_n 3 d_Mo_layCaught_83 rfl ?_
    obtain ⟨u_6, eu_6, h⟩ := zbind h
    obtain ⟨q_7, eq_7, h⟩ := zbind h
    refine zo_virt (k' := 0) (n' := 0) 87 [.int x3] [.int x2, .ref a0, .int x4] [.int q_7.1, .int x2, .ref a0, .int x4] zkd_11 (zck_s eu_6) (C_Mo_flowOn n E S a0 x3 M q_7.1 q_7.2 eq_7) d_Mo_layCaught_84 tw_1525 tw_1522 tw_1524 ts_51 tw_13 dd_Mo_flowOn ⟨Nat.le_of_ble_eq_true rfl, Nat.le_of_ble_eq_true rfl, Nat.le_of_ble_eq_true rfl, Nat.le_of_ble_eq_true rfl⟩ (Nat.le_of_ble_eq_true rfl) rfl rfl rfl rfl ?_
    obtain ⟨q_8, eq_8, h⟩ := zbind h
    refine zo_virt (k' := 0) (n' := 0) 90 [.int x2, .int q_7.1] [.int x4] [.int q_8.1, .int x4] zkd_11 (zck_s eu_6) (C_Mo_catchIn n E S a0 x2 q_7.1 q_7.2 q_8.1 q_8.2 eq_8) d_Mo_layCaught_87 tw_1742 tw_1739 tw_1741 ts_86 tw_13 dd_Mo_catchIn ⟨Nat.le_of_ble_eq_true rfl, Nat.le_of_ble_eq_true rfl, Nat.le_of_ble_eq_true rfl, Nat.le_of_ble_eq_true rfl⟩ (Nat.le_of_ble_eq_true rfl) rfl rfl rfl rfl ?_
    refine zi_iadd d_Mo_layCaught_90 ?_
    refine zi_istore [(4, .int (x4 + q_8.1)), (0, .ref a0), (1, .int x1), (2, .int x2), (3, .int x3), (5, .int x5)] d_Mo_layCaught_91 (by decide) rfl ?_
    refine zi_aload_n 1 d_Mo_layCaught_93 rfl ?_
    obtain ⟨q_9, eq_9, h⟩ := zbind h
    refine zo_virt (k' := 0) (n' := 0) 97 [] [] [] zkd_11 (zck_s eu_6) (C_Mo_turnAll n E S a0 q_8.2 q_9 eq_9) d_Mo_layCaught_94 tw_1746 tw_1743 tw_1745 ts_87 tw_13 dd_Mo_turnAll ⟨Nat.le_of_ble_eq_true rfl, Nat.le_of_ble_eq_true rfl, Nat.le_of_ble_eq_true rfl, Nat.le_of_ble_eq_true rfl⟩ (Nat.le_of_ble_eq_true rfl) rfl rfl rfl rfl ?_
    refine zi_iinc 5 (x5 + 1) [(5, .int (x5 + 1)), (4, .int (x4 + q_8.1)), (0, .ref a0), (1, .int x1), (2, .int x2), (3, .int x3)] d_Mo_layCaught_97 rfl rfl (by decide) rfl ?_
    refine zi_goto (tgt := 72) d_Mo_layCaught_100 rfl ?_
    refine zi_lo [(0, .ref a0), (1, .int x1), (2, .int x2), (3, .int x3), (4, .int (x4 + q_8.1)), (5, .int (x5 + 1))] [2, 3, 4, 5, 1, 0] rfl ?_
    exact hr72 a0 x1 x2 x3 (x4 + q_8.1) (x5 + 1) q_9 h
theorem K_Mo_layCaught_b72 (n : Nat) (E : zE) (S : zS) (r23 : Nat × Int32 × Int32 × zH → Option (zH)) (r35 : Nat × Int32 × Int32 × Int32 × zH → Option (zH)) (a0 : Nat) (x1 : Int32) (x2 : Int32) (x3 : Int32) (x4 : Int32) (x5 : Int32) (M : zH) (M' : zH) (hr23 : ∀ (a0 : Nat) (x1 : Int32) (x2 : Int32) (M : zH), r23 (a0, x1, x2, M) = some M' → zG E Y_Mo_layCaught (none, S, M') 23 [(0, .ref a0), (1, .int x1), (2, .int x2)] [] S M 0 0) (hr35 : ∀ (a0 : Nat) (x1 : Int32) (x2 : Int32) (x3 : Int32) (M : zH), r35 (a0, x1, x2, x3, M) = some M' → zG E Y_Mo_layCaught (none, S, M') 35 [(0, .ref a0), (1, .int x1), (2, .int x2), (3, .int x3)] [] S M 0 0) (h : F_Mo_layCaught_b72 n E S r23 r35 (a0, x1, x2, x3, x4, x5, M) = some M') : zG E Y_Mo_layCaught (none, S, M') 72 [(0, .ref a0), (1, .int x1), (2, .int x2), (3, .int x3), (4, .int x4), (5, .int x5)] [] S M 0 0 := by
  have key : ∀ (k : Nat) (a0 : Nat) (x1 : Int32) (x2 : Int32) (x3 : Int32) (x4 : Int32) (x5 : Int32) (M : zH), zfix (fun r72 s => F_Mo_layCaught_L72 n E S r23 r35 r72 s.1 s.2.1 s.2.2.1 s.2.2.2.1 s.2.2.2.2.1 s.2.2.2.2.2.1 s.2.2.2.2.2.2) k (a0, x1, x2, x3, x4, x5, M) = some M' → zG E Y_Mo_layCaught (none, S, M') 72 [(0, .ref a0), (1, .int x1), (2, .int x2), (3, .int x3), (4, .int x4), (5, .int x5)] [] S M 0 0 := by
    intro k
    induction k with
    | zero => intro a0 x1 x2 x3 x4 x5 M h; cases h
    | succ k ih => intro a0 x1 x2 x3 x4 x5 M h; exact K_Mo_layCaught_L72 n E S r23 r35 _ a0 x1 x2 x3 x4 x5 M M' hr23 hr35 (fun a0 x1 x2 x3 x4 x5 M h => ih a0 x1 x2 x3 x4 x5 M h) h
  exact key n a0 x1 x2 x3 x4 x5 M h
theorem K_Mo_layCaught_L35 (n : Nat) (E : zE) (S : zS) (r23 : Nat × Int32 × Int32 × zH → Option (zH)) (r35 : Nat × Int32 × Int32 × Int32 × zH → Option (zH)) (a0 : Nat) (x1 : Int32) (x2 : Int32) (x3 : Int32) (M : zH) (M' : zH) (hr23 : ∀ (a0 : Nat) (x1 : Int32) (x2 : Int32) (M : zH), r23 (a0, x1, x2, M) = some M' → zG E Y_Mo_layCaught (none, S, M') 23 [(0, .ref a0), (1, .int x1), (2, .int x2)] [] S M 0 0) (hr35 : ∀ (a0 : Nat) (x1 : Int32) (x2 : Int32) (x3 : Int32) (M : zH), r35 (a0, x1, x2, x3, M) = some M' → zG E Y_Mo_layCaught (none, S, M') 35 [(0, .ref a0), (1, .int x1), (2, .int x2), (3, .int x3)] [] S M 0 0) (h : F_Mo_layCaught_L35 n E S r23 r35 a0 x1 x2 x3 M = some M') : zG E Y_Mo_layCaught (none, S, M') 35 [(0, .ref a0), (1, .int x1), (2, .int x2), (3, .int x3)] [] S M 0 0 := by
  unfold F_Mo_layCaught_L35 at h
  refine zi_iload_n 3 d_Mo_layCaught_35 rfl ?_
  refine zi_bipush 8 d_Mo_layCaught_36 rfl ?_
  refine zi_icmp_ge (tgt := 128) d_Mo_layCaught_38 rfl (fun c_10 => ?_) (fun c_10 => ?_)
  · rw [if_pos c_10] at h
    refine zi_iinc 2 (x2 + 1) [(2, .int (x2 + 1)), (0, .ref a0), (1, .int x1), (3, .int x3)] d_Mo_layCaught_128 rfl rfl (by decide) rfl ?_
    refine zi_goto (tgt := 23) d_Mo_layCaught_131 rfl ?_
    refine zi_lo [(0, .ref a0), (1, .int x1), (2, .int (x2 + 1))] [1, 2, 0] rfl ?_
    exact hr23 a0 x1 (x2 + 1) M h
  · rw [if_neg c_10] at h
    refine zi_aload_n 0 d_Mo_layCaught_41 rfl ?_
    refine zi_iload_n 2 d_Mo_layCaught_42 rfl ?_
    refine zi_iload_n 3 d_Mo_layCaught_43 rfl ?_
    obtain ⟨u_11, eu_11, h⟩ := zbind h
    obtain ⟨q_12, eq_12, h⟩ := zbind h
    refine zo_virt (k' := 0) (n' := 0) 47 [.int x2, .int x3] [] [.int (bI q_12.1)] zkd_11 (zck_s eu_11) (C_Mo_isBarred n E S a0 x2 x3 M q_12.1 q_12.2 eq_12) d_Mo_layCaught_44 tw_1512 tw_1509 tw_1511 ts_50 tw_13 dd_Mo_isBarred ⟨Nat.le_of_ble_eq_true rfl, Nat.le_of_ble_eq_true rfl, Nat.le_of_ble_eq_true rfl, Nat.le_of_ble_eq_true rfl⟩ (Nat.le_of_ble_eq_true rfl) rfl rfl rfl rfl ?_
    refine zo_ifneB d_Mo_layCaught_47 rfl 50 rfl (fun c_13 => ?_) (fun c_13 => ?_)
    · rw [if_pos c_13] at h
      refine zi_lo [(0, .ref a0), (1, .int x1), (2, .int x2), (3, .int x3)] [0, 1, 2, 3] rfl ?_
      exact K_Mo_layCaught_b122 n E S r23 r35 a0 x1 x2 x3 q_12.2 M' hr23 hr35 h
    · rw [if_neg c_13] at h
      refine zi_aload_n 0 d_Mo_layCaught_50 rfl ?_
      refine zi_bipush 16 d_Mo_layCaught_51 rfl ?_
      obtain ⟨q_14, eq_14, h⟩ := zbind h
      refine zo_virt (k' := 0) (n' := 0) 56 [.int 16] [] [] zkd_11 (zck_s eu_11) (C_Mo_keepAll n E S a0 16 q_12.2 q_14 eq_14) d_Mo_layCaught_53 tw_1706 tw_1703 tw_1705 ts_80 tw_13 dd_Mo_keepAll ⟨Nat.le_of_ble_eq_true rfl, Nat.le_of_ble_eq_true rfl, Nat.le_of_ble_eq_true rfl, Nat.le_of_ble_eq_true rfl⟩ (Nat.le_of_ble_eq_true rfl) rfl rfl rfl rfl ?_
      refine zi_aload_n 0 d_Mo_layCaught_56 rfl ?_
      obtain ⟨b_15, eb_15, h⟩ := zbind h
      refine zo_getR 60 zkd_11 3 d_Mo_layCaught_57 eb_15 rfl tw_1234 rfl ?_
      refine zi_bipush 51 d_Mo_layCaught_60 rfl ?_
      refine zi_iload_n 2 d_Mo_layCaught_62 rfl ?_
      refine zi_iadd d_Mo_layCaught_63 ?_
      refine zi_iload_n 3 d_Mo_layCaught_64 rfl ?_
      obtain ⟨m_16, em_16, h⟩ := zbind h
      refine zo_iast 66 d_Mo_layCaught_65 em_16 rfl ?_
      refine zi_iconst 0 d_Mo_layCaught_66 rfl ?_
      refine zi_istore [(4, .int 0), (0, .ref a0), (1, .int x1), (2, .int x2), (3, .int x3)] d_Mo_layCaught_67 (by decide) rfl ?_
      refine zi_iconst 0 d_Mo_layCaught_69 rfl ?_
      refine zi_istore [(5, .int 0), (4, .int 0), (0, .ref a0), (1, .int x1), (2, .int x2), (3, .int x3)] d_Mo_layCaught_70 (by decide) rfl ?_
      refine zi_lo [(0, .ref a0), (1, .int x1), (2, .int x2), (3, .int x3), (4, .int 0), (5, .int 0)] [2, 3, 4, 5, 1, 0] rfl ?_
      exact K_Mo_layCaught_b72 n E S r23 r35 a0 x1 x2 x3 0 0 m_16 M' hr23 hr35 h
theorem K_Mo_layCaught_b35 (n : Nat) (E : zE) (S : zS) (r23 : Nat × Int32 × Int32 × zH → Option (zH)) (a0 : Nat) (x1 : Int32) (x2 : Int32) (x3 : Int32) (M : zH) (M' : zH) (hr23 : ∀ (a0 : Nat) (x1 : Int32) (x2 : Int32) (M : zH), r23 (a0, x1, x2, M) = some M' → zG E Y_Mo_layCaught (none, S, M') 23 [(0, .ref a0), (1, .int x1), (2, .int x2)] [] S M 0 0) (h : F_Mo_layCaught_b35 n E S r23 (a0, x1, x2, x3, M) = some M') : zG E Y_Mo_layCaught (none, S, M') 35 [(0, .ref a0), (1, .int x1), (2, .int x2), (3, .int x3)] [] S M 0 0 := by
  have key : ∀ (k : Nat) (a0 : Nat) (x1 : Int32) (x2 : Int32) (x3 : Int32) (M : zH), zfix (fun r35 s => F_Mo_layCaught_L35 n E S r23 r35 s.1 s.2.1 s.2.2.1 s.2.2.2.1 s.2.2.2.2) k (a0, x1, x2, x3, M) = some M' → zG E Y_Mo_layCaught (none, S, M') 35 [(0, .ref a0), (1, .int x1), (2, .int x2), (3, .int x3)] [] S M 0 0 := by
    intro k
    induction k with
    | zero => intro a0 x1 x2 x3 M h; cases h
    | succ k ih => intro a0 x1 x2 x3 M h; exact K_Mo_layCaught_L35 n E S r23 _ a0 x1 x2 x3 M M' hr23 (fun a0 x1 x2 x3 M h => ih a0 x1 x2 x3 M h) h
  exact key n a0 x1 x2 x3 M h
theorem K_Mo_layCaught_L23 (n : Nat) (E : zE) (S : zS) (r23 : Nat × Int32 × Int32 × zH → Option (zH)) (a0 : Nat) (x1 : Int32) (x2 : Int32) (M : zH) (M' : zH) (hr23 : ∀ (a0 : Nat) (x1 : Int32) (x2 : Int32) (M : zH), r23 (a0, x1, x2, M) = some M' → zG E Y_Mo_layCaught (none, S, M') 23 [(0, .ref a0), (1, .int x1), (2, .int x2)] [] S M 0 0) (h : F_Mo_layCaught_L23 n E S r23 a0 x1 x2 M = some M') : zG E Y_Mo_layCaught (none, S, M') 23 [(0, .ref a0), (1, .int x1), (2, .int x2)] [] S M 0 0 := by
  unfold F_Mo_layCaught_L23 at h
  refine zi_iload_n 2 d_Mo_layCaught_23 rfl ?_
  refine zi_aload_n 0 d_Mo_layCaught_24 rfl ?_
  obtain ⟨b_17, eb_17, h⟩ := zbind h
  refine zo_getR 28 zkd_11 3 d_Mo_layCaught_25 eb_17 rfl tw_1234 rfl ?_
  refine zi_iconst 0 d_Mo_layCaught_28 rfl ?_
  obtain ⟨v_18, ev_18, h⟩ := zbind h
  refine zo_iald 30 d_Mo_layCaught_29 ev_18 rfl ?_
  refine zi_icmp_ge (tgt := 134) d_Mo_layCaught_30 rfl (fun c_19 => ?_) (fun c_19 => ?_)
  · rw [if_pos c_19] at h
    cases h
    exact zo_ret d_Mo_layCaught_134 (Nat.le_of_ble_eq_true rfl) (Nat.le_of_ble_eq_true rfl) rfl
  · rw [if_neg c_19] at h
    refine zi_iconst 0 d_Mo_layCaught_33 rfl ?_
    refine zi_istore_n [(3, .int 0), (0, .ref a0), (1, .int x1), (2, .int x2)] d_Mo_layCaught_34 (by decide) rfl ?_
    refine zi_lo [(0, .ref a0), (1, .int x1), (2, .int x2), (3, .int 0)] [1, 2, 3, 0] rfl ?_
    exact K_Mo_layCaught_b35 n E S r23 a0 x1 x2 0 M M' hr23 h
theorem K_Mo_layCaught_b23 (n : Nat) (E : zE) (S : zS) (a0 : Nat) (x1 : Int32) (x2 : Int32) (M : zH) (M' : zH)  (h : F_Mo_layCaught_b23 n E S (a0, x1, x2, M) = some M') : zG E Y_Mo_layCaught (none, S, M') 23 [(0, .ref a0), (1, .int x1), (2, .int x2)] [] S M 0 0 := by
  have key : ∀ (k : Nat) (a0 : Nat) (x1 : Int32) (x2 : Int32) (M : zH), zfix (fun r23 s => F_Mo_layCaught_L23 n E S r23 s.1 s.2.1 s.2.2.1 s.2.2.2) k (a0, x1, x2, M) = some M' → zG E Y_Mo_layCaught (none, S, M') 23 [(0, .ref a0), (1, .int x1), (2, .int x2)] [] S M 0 0 := by
    intro k
    induction k with
    | zero => intro a0 x1 x2 M h; cases h
    | succ k ih => intro a0 x1 x2 M h; exact K_Mo_layCaught_L23 n E S _ a0 x1 x2 M M'  (fun a0 x1 x2 M h => ih a0 x1 x2 M h) h
  exact key n a0 x1 x2 M h
theorem K_Mo_layCaught_L2 (n : Nat) (E : zE) (S : zS) (r2 : Nat × Int32 × Int32 × zH → Option (zH)) (a0 : Nat) (x1 : Int32) (x2 : Int32) (M : zH) (M' : zH) (hr2 : ∀ (a0 : Nat) (x1 : Int32) (x2 : Int32) (M : zH), r2 (a0, x1, x2, M) = some M' → zG E Y_Mo_layCaught (none, S, M') 2 [(0, .ref a0), (1, .int x1), (2, .int x2)] [] S M 0 0) (h : F_Mo_layCaught_L2 n E S r2 a0 x1 x2 M = some M') : zG E Y_Mo_layCaught (none, S, M') 2 [(0, .ref a0), (1, .int x1), (2, .int x2)] [] S M 0 0 := by
  unfold F_Mo_layCaught_L2 at h
  refine zi_iload_n 2 d_Mo_layCaught_2 rfl ?_
  refine zi_bipush 24 d_Mo_layCaught_3 rfl ?_
  refine zi_icmp_ge (tgt := 21) d_Mo_layCaught_5 rfl (fun c_20 => ?_) (fun c_20 => ?_)
  · rw [if_pos c_20] at h
    refine zi_iconst 0 d_Mo_layCaught_21 rfl ?_
    refine zi_istore_n [(2, .int 0), (0, .ref a0), (1, .int x1)] d_Mo_layCaught_22 (by decide) rfl ?_
    refine zi_lo [(0, .ref a0), (1, .int x1), (2, .int 0)] [1, 2, 0] rfl ?_
    exact K_Mo_layCaught_b23 n E S a0 x1 0 M M'  h
  · rw [if_neg c_20] at h
    refine zi_aload_n 0 d_Mo_layCaught_8 rfl ?_
    obtain ⟨b_21, eb_21, h⟩ := zbind h
    refine zo_getR 12 zkd_11 42 d_Mo_layCaught_9 eb_21 rfl tw_1273 rfl ?_
    refine zi_iload_n 2 d_Mo_layCaught_12 rfl ?_
    refine zi_iconst (-1) d_Mo_layCaught_13 rfl ?_
    obtain ⟨m_22, em_22, h⟩ := zbind h
    refine zo_iast 15 d_Mo_layCaught_14 em_22 rfl ?_
    refine zi_iinc 2 (x2 + 1) [(2, .int (x2 + 1)), (0, .ref a0), (1, .int x1)] d_Mo_layCaught_15 rfl rfl (by decide) rfl ?_
    refine zi_goto (tgt := 2) d_Mo_layCaught_18 rfl ?_
    refine zi_lo [(0, .ref a0), (1, .int x1), (2, .int (x2 + 1))] [1, 2, 0] rfl ?_
    exact hr2 a0 x1 (x2 + 1) m_22 h
theorem K_Mo_layCaught_b2 (n : Nat) (E : zE) (S : zS) (a0 : Nat) (x1 : Int32) (x2 : Int32) (M : zH) (M' : zH)  (h : F_Mo_layCaught_b2 n E S (a0, x1, x2, M) = some M') : zG E Y_Mo_layCaught (none, S, M') 2 [(0, .ref a0), (1, .int x1), (2, .int x2)] [] S M 0 0 := by
  have key : ∀ (k : Nat) (a0 : Nat) (x1 : Int32) (x2 : Int32) (M : zH), zfix (fun r2 s => F_Mo_layCaught_L2 n E S r2 s.1 s.2.1 s.2.2.1 s.2.2.2) k (a0, x1, x2, M) = some M' → zG E Y_Mo_layCaught (none, S, M') 2 [(0, .ref a0), (1, .int x1), (2, .int x2)] [] S M 0 0 := by
    intro k
    induction k with
    | zero => intro a0 x1 x2 M h; cases h
    | succ k ih => intro a0 x1 x2 M h; exact K_Mo_layCaught_L2 n E S _ a0 x1 x2 M M'  (fun a0 x1 x2 M h => ih a0 x1 x2 M h) h
  exact key n a0 x1 x2 M h
theorem K_Mo_layCaught (n : Nat) (E : zE) (S : zS) (a0 : Nat) (x1 : Int32) (M : zH) (M' : zH)  (h : F_Mo_layCaught n E S a0 x1 M = some M') : zG E Y_Mo_layCaught (none, S, M') 0 [(0, .ref a0), (1, .int x1)] [] S M 0 0 := by
  unfold F_Mo_layCaught at h
  refine zi_iconst 0 d_Mo_layCaught_0 rfl ?_
  refine zi_istore_n [(2, .int 0), (0, .ref a0), (1, .int x1)] d_Mo_layCaught_1 (by decide) rfl ?_
  refine zi_lo [(0, .ref a0), (1, .int x1), (2, .int 0)] [1, 2, 0] rfl ?_
  exact K_Mo_layCaught_b2 n E S a0 x1 0 M M'  h
theorem C_Mo_layCaught (n : Nat) (E : zE) (S : zS) (a0 : Nat) (x1 : Int32) (M : zH) (M' : zH) (h : F_Mo_layCaught n E S a0 x1 M = some M') : zC E Y_Mo_layCaught [.ref a0, .int x1] S M (none, S, M') :=
  zC.of (Or.inl (show plainName "NightColanderModel" = true by decide)) (Nat.le_of_ble_eq_true rfl) (trivial) (K_Mo_layCaught n E S a0 x1 M M' h)
theorem d_Mo_placed_0 : decode (yB Y_Mo_placed) 0 = .ok (.aload_n 0, 1) := by decide +kernel
theorem d_Mo_placed_1 : decode (yB Y_Mo_placed) 1 = .ok (.iconst 0, 1) := by decide +kernel
theorem d_Mo_placed_2 : decode (yB Y_Mo_placed) 2 = .ok (.putfield 156, 3) := by decide +kernel
theorem d_Mo_placed_5 : decode (yB Y_Mo_placed) 5 = .ok (.iload_n 1, 1) := by decide +kernel
theorem d_Mo_placed_6 : decode (yB Y_Mo_placed) 6 = .ok (.i2l, 1) := by decide +kernel
theorem d_Mo_placed_7 : decode (yB Y_Mo_placed) 7 = .ok (.lconst 1, 1) := by decide +kernel
theorem d_Mo_placed_8 : decode (yB Y_Mo_placed) 8 = .ok (.ldc2_w 237, 3) := by decide +kernel
theorem d_Mo_placed_11 : decode (yB Y_Mo_placed) 11 = .ok (.invokestatic 176, 3) := by decide +kernel
theorem d_Mo_placed_14 : decode (yB Y_Mo_placed) 14 = .ok (.ifCond .eq 19, 3) := by decide +kernel
theorem d_Mo_placed_17 : decode (yB Y_Mo_placed) 17 = .ok (.iload_n 2, 1) := by decide +kernel
theorem d_Mo_placed_18 : decode (yB Y_Mo_placed) 18 = .ok (.i2l, 1) := by decide +kernel
theorem d_Mo_placed_19 : decode (yB Y_Mo_placed) 19 = .ok (.lconst 0, 1) := by decide +kernel
theorem d_Mo_placed_20 : decode (yB Y_Mo_placed) 20 = .ok (.aload_n 0, 1) := by decide +kernel
theorem d_Mo_placed_21 : decode (yB Y_Mo_placed) 21 = .ok (.getfield 13, 3) := by decide +kernel
theorem d_Mo_placed_24 : decode (yB Y_Mo_placed) 24 = .ok (.iconst 0, 1) := by decide +kernel
theorem d_Mo_placed_25 : decode (yB Y_Mo_placed) 25 = .ok (.iaload, 1) := by decide +kernel
theorem d_Mo_placed_26 : decode (yB Y_Mo_placed) 26 = .ok (.i2l, 1) := by decide +kernel
theorem d_Mo_placed_27 : decode (yB Y_Mo_placed) 27 = .ok (.invokestatic 176, 3) := by decide +kernel
theorem d_Mo_placed_30 : decode (yB Y_Mo_placed) 30 = .ok (.ifCond .ne 5, 3) := by decide +kernel
theorem d_Mo_placed_33 : decode (yB Y_Mo_placed) 33 = .ok (.iconst (-1), 1) := by decide +kernel
theorem d_Mo_placed_34 : decode (yB Y_Mo_placed) 34 = .ok (.ireturn, 1) := by decide +kernel
theorem d_Mo_placed_35 : decode (yB Y_Mo_placed) 35 = .ok (.aload_n 0, 1) := by decide +kernel
theorem d_Mo_placed_36 : decode (yB Y_Mo_placed) 36 = .ok (.iload_n 1, 1) := by decide +kernel
theorem d_Mo_placed_37 : decode (yB Y_Mo_placed) 37 = .ok (.invokevirtual 475, 3) := by decide +kernel
theorem d_Mo_placed_40 : decode (yB Y_Mo_placed) 40 = .ok (.aload_n 0, 1) := by decide +kernel
theorem d_Mo_placed_41 : decode (yB Y_Mo_placed) 41 = .ok (.invokevirtual 478, 3) := by decide +kernel
theorem d_Mo_placed_44 : decode (yB Y_Mo_placed) 44 = .ok (.istore_n 3, 1) := by decide +kernel
theorem d_Mo_placed_45 : decode (yB Y_Mo_placed) 45 = .ok (.iload_n 3, 1) := by decide +kernel
theorem d_Mo_placed_46 : decode (yB Y_Mo_placed) 46 = .ok (.iconst (-1), 1) := by decide +kernel
theorem d_Mo_placed_47 : decode (yB Y_Mo_placed) 47 = .ok (.if_icmp .eq 7, 3) := by decide +kernel
theorem d_Mo_placed_50 : decode (yB Y_Mo_placed) 50 = .ok (.iload_n 2, 1) := by decide +kernel
theorem d_Mo_placed_51 : decode (yB Y_Mo_placed) 51 = .ok (.ifCond .ne 7, 3) := by decide +kernel
theorem d_Mo_placed_54 : decode (yB Y_Mo_placed) 54 = .ok (.iload_n 3, 1) := by decide +kernel
theorem d_Mo_placed_55 : decode (yB Y_Mo_placed) 55 = .ok (.goto 11, 3) := by decide +kernel
theorem d_Mo_placed_58 : decode (yB Y_Mo_placed) 58 = .ok (.aload_n 0, 1) := by decide +kernel
theorem d_Mo_placed_59 : decode (yB Y_Mo_placed) 59 = .ok (.getfield 121, 3) := by decide +kernel
theorem d_Mo_placed_62 : decode (yB Y_Mo_placed) 62 = .ok (.iload_n 2, 1) := by decide +kernel
theorem d_Mo_placed_63 : decode (yB Y_Mo_placed) 63 = .ok (.iconst 1, 1) := by decide +kernel
theorem d_Mo_placed_64 : decode (yB Y_Mo_placed) 64 = .ok (.isub, 1) := by decide +kernel
theorem d_Mo_placed_65 : decode (yB Y_Mo_placed) 65 = .ok (.iaload, 1) := by decide +kernel
theorem d_Mo_placed_66 : decode (yB Y_Mo_placed) 66 = .ok (.ireturn, 1) := by decide +kernel
def F_Mo_placed_b54 (n : Nat) (E : zE) (S : zS) (x3 : Int32) (M : zH) : Option (Int32 × zH) :=
  some (x3, M)
def F_Mo_placed (n : Nat) (E : zE) (S : zS) (a0 : Nat) (x1 : Int32) (x2 : Int32) (M : zH) : Option (Int32 × zH) :=
  (zpI S M a0 11 0 0).bind fun m_1 =>
  (F_Mo_in n E S x1.toInt64 1 9 m_1).bind fun q_2 =>
  if q_2.1 = true then
    (zgR S a0 11 3).bind fun b_4 =>
    (zldI S q_2.2 b_4 0).bind fun v_5 =>
    (F_Mo_in n E S x2.toInt64 0 v_5.toInt64 q_2.2).bind fun q_6 =>
    if q_6.1 = true then
      (F_Mo_layCaught n E S a0 x1 q_6.2).bind fun q_8 =>
      (F_Mo_findPlaced n E S a0 q_8).bind fun q_9 =>
      if q_9.1 = (-1) then
        F_Mo_placed_b54 n E S q_9.1 q_9.2
      else
        if x2 = 0 then
          F_Mo_placed_b54 n E S q_9.1 q_9.2
        else
          (zgR S a0 11 44).bind fun b_12 =>
          (zldI S q_9.2 b_12 (x2 - 1)).bind fun v_13 =>
          some (v_13, q_9.2)
    else
      some ((-1), q_6.2)
  else
    some ((-1), q_2.2)
theorem K_Mo_placed_b54 (n : Nat) (E : zE) (S : zS) (x3 : Int32) (M : zH) (r : Int32) (M' : zH)  (h : F_Mo_placed_b54 n E S x3 M = some (r, M')) : zG E Y_Mo_placed (some (.int r), S, M') 54 [(3, .int x3)] [] S M 0 0 := by
  unfold F_Mo_placed_b54 at h
  refine zi_iload_n 0 d_Mo_placed_54 rfl ?_
  refine zi_goto (tgt := 66) d_Mo_placed_55 rfl ?_
  cases h
  exact zo_ret d_Mo_placed_66 (Nat.le_of_ble_eq_true rfl) (Nat.le_of_ble_eq_true rfl) rfl
theorem K_Mo_placed (n : Nat) (E : zE) (S : zS) (a0 : Nat) (x1 : Int32) (x2 : Int32) (M : zH) (r : Int32) (M' : zH)  (h : F_Mo_placed n E S a0 x1 x2 M = some (r, M')) : zG E Y_Mo_placed (some (.int r), S, M') 0 [(0, .ref a0), (1, .int x1), (2, .int x2)] [] S M 0 0 := by
  unfold F_Mo_placed at h
  refine zi_aload_n 0 d_Mo_placed_0 rfl ?_
  refine zi_iconst 0 d_Mo_placed_1 rfl ?_
  obtain ⟨m_1, em_1, h⟩ := zbind h
  refine zo_putI 5 zkd_11 0 d_Mo_placed_2 em_1 rfl rfl rfl tw_1231 rfl ?_
  refine zi_iload_n 1 d_Mo_placed_5 rfl ?_
  refine zi_i2l d_Mo_placed_6 ?_
  refine zi_lconst 1 d_Mo_placed_7 rfl ?_
  refine zi_ldc2 d_Mo_placed_8 tw_1538 ?_
  obtain ⟨q_2, eq_2, h⟩ := zbind h
  refine zo_stat (k' := 0) (n' := 0) 14 [.long x1.toInt64, .long 1, .long 9] [] [.int (bI q_2.1)] (C_Mo_in n E S x1.toInt64 1 9 m_1 q_2.1 q_2.2 eq_2) d_Mo_placed_11 tw_1421 tw_1419 tw_1420 tw_13 dd_Mo_in ⟨Nat.le_of_ble_eq_true rfl, Nat.le_of_ble_eq_true rfl, Nat.le_of_ble_eq_true rfl, Nat.le_of_ble_eq_true rfl⟩ (Nat.le_of_ble_eq_true rfl) rfl rfl rfl rfl ?_
  refine zo_ifeqB d_Mo_placed_14 rfl 17 rfl (fun c_3 => ?_) (fun c_3 => ?_)
  · rw [if_neg c_3] at h
    refine zi_iconst (-1) d_Mo_placed_33 rfl ?_
    cases h
    exact zo_ret d_Mo_placed_34 (Nat.le_of_ble_eq_true rfl) (Nat.le_of_ble_eq_true rfl) rfl
  · rw [if_pos c_3] at h
    refine zi_iload_n 2 d_Mo_placed_17 rfl ?_
    refine zi_i2l d_Mo_placed_18 ?_
    refine zi_lconst 0 d_Mo_placed_19 rfl ?_
    refine zi_aload_n 0 d_Mo_placed_20 rfl ?_
    obtain ⟨b_4, eb_4, h⟩ := zbind h
    refine zo_getR 24 zkd_11 3 d_Mo_placed_21 eb_4 rfl tw_1234 rfl ?_
    refine zi_iconst 0 d_Mo_placed_24 rfl ?_
    obtain ⟨v_5, ev_5, h⟩ := zbind h
    refine zo_iald 26 d_Mo_placed_25 ev_5 rfl ?_
    refine zi_i2l d_Mo_placed_26 ?_
    obtain ⟨q_6, eq_6, h⟩ := zbind h
    refine zo_stat (k' := 0) (n' := 0) 30 [.long x2.toInt64, .long 0, .long v_5.toInt64] [] [.int (bI q_6.1)] (C_Mo_in n E S x2.toInt64 0 v_5.toInt64 q_2.2 q_6.1 q_6.2 eq_6) d_Mo_placed_27 tw_1421 tw_1419 tw_1420 tw_13 dd_Mo_in ⟨Nat.le_of_ble_eq_true rfl, Nat.le_of_ble_eq_true rfl, Nat.le_of_ble_eq_true rfl, Nat.le_of_ble_eq_true rfl⟩ (Nat.le_of_ble_eq_true rfl) rfl rfl rfl rfl ?_
    refine zo_ifneB d_Mo_placed_30 rfl 33 rfl (fun c_7 => ?_) (fun c_7 => ?_)
    · rw [if_pos c_7] at h
      refine zi_aload_n 0 d_Mo_placed_35 rfl ?_
      refine zi_iload_n 1 d_Mo_placed_36 rfl ?_
      obtain ⟨q_8, eq_8, h⟩ := zbind h
      refine zo_virt (k' := 0) (n' := 0) 40 [.int x1] [] [] zkd_11 (zgR_s eb_4).1 (C_Mo_layCaught n E S a0 x1 q_6.2 q_8 eq_8) d_Mo_placed_37 tw_1758 tw_1755 tw_1757 ts_88 tw_13 dd_Mo_layCaught ⟨Nat.le_of_ble_eq_true rfl, Nat.le_of_ble_eq_true rfl, Nat.le_of_ble_eq_true rfl, Nat.le_of_ble_eq_true rfl⟩ (Nat.le_of_ble_eq_true rfl) rfl rfl rfl rfl ?_
      refine zi_aload_n 0 d_Mo_placed_40 rfl ?_
      obtain ⟨q_9, eq_9, h⟩ := zbind h
      refine zo_virt (k' := 0) (n' := 0) 44 [] [] [.int q_9.1] zkd_11 (zgR_s eb_4).1 (C_Mo_findPlaced n E S a0 q_8 q_9.1 q_9.2 eq_9) d_Mo_placed_41 tw_1762 tw_1759 tw_1761 ts_89 tw_13 dd_Mo_findPlaced ⟨Nat.le_of_ble_eq_true rfl, Nat.le_of_ble_eq_true rfl, Nat.le_of_ble_eq_true rfl, Nat.le_of_ble_eq_true rfl⟩ (Nat.le_of_ble_eq_true rfl) rfl rfl rfl rfl ?_
      refine zi_istore_n [(3, .int q_9.1), (0, .ref a0), (1, .int x1), (2, .int x2)] d_Mo_placed_44 (by decide) rfl ?_
      refine zi_iload_n 0 d_Mo_placed_45 rfl ?_
      refine zi_iconst (-1) d_Mo_placed_46 rfl ?_
      refine zi_icmp_eq (tgt := 54) d_Mo_placed_47 rfl (fun c_10 => ?_) (fun c_10 => ?_)
      · rw [if_pos c_10] at h
        refine zi_lo [(3, .int q_9.1)] [0] rfl ?_
        exact K_Mo_placed_b54 n E S q_9.1 q_9.2 r M'  h
      · rw [if_neg c_10] at h
        refine zi_iload_n 3 d_Mo_placed_50 rfl ?_
        refine zi_if_ne (tgt := 58) d_Mo_placed_51 rfl (fun c_11 => ?_) (fun c_11 => ?_)
        · rw [if_neg c_11] at h
          refine zi_aload_n 1 d_Mo_placed_58 rfl ?_
          obtain ⟨b_12, eb_12, h⟩ := zbind h
          refine zo_getR 62 zkd_11 44 d_Mo_placed_59 eb_12 rfl tw_1275 rfl ?_
          refine zi_iload_n 3 d_Mo_placed_62 rfl ?_
          refine zi_iconst 1 d_Mo_placed_63 rfl ?_
          refine zi_isub d_Mo_placed_64 ?_
          obtain ⟨v_13, ev_13, h⟩ := zbind h
          refine zo_iald 66 d_Mo_placed_65 ev_13 rfl ?_
          cases h
          exact zo_ret d_Mo_placed_66 (Nat.le_of_ble_eq_true rfl) (Nat.le_of_ble_eq_true rfl) rfl
        · rw [if_pos c_11] at h
          refine zi_lo [(3, .int q_9.1)] [0] rfl ?_
          exact K_Mo_placed_b54 n E S q_9.1 q_9.2 r M'  h
    · rw [if_neg c_7] at h
      refine zi_iconst (-1) d_Mo_placed_33 rfl ?_
      cases h
      exact zo_ret d_Mo_placed_34 (Nat.le_of_ble_eq_true rfl) (Nat.le_of_ble_eq_true rfl) rfl
theorem C_Mo_placed (n : Nat) (E : zE) (S : zS) (a0 : Nat) (x1 : Int32) (x2 : Int32) (M : zH) (r : Int32) (M' : zH) (h : F_Mo_placed n E S a0 x1 x2 M = some (r, M')) : zC E Y_Mo_placed [.ref a0, .int x1, .int x2] S M (some (.int r), S, M') :=
  zC.of (Or.inl (show plainName "NightColanderModel" = true by decide)) (Nat.le_of_ble_eq_true rfl) (trivial) (K_Mo_placed n E S a0 x1 x2 M r M' h)
theorem d_Mo_seen_0 : decode (yB Y_Mo_seen) 0 = .ok (.aload_n 0, 1) := by decide +kernel
theorem d_Mo_seen_1 : decode (yB Y_Mo_seen) 1 = .ok (.iconst 0, 1) := by decide +kernel
theorem d_Mo_seen_2 : decode (yB Y_Mo_seen) 2 = .ok (.putfield 156, 3) := by decide +kernel
theorem d_Mo_seen_5 : decode (yB Y_Mo_seen) 5 = .ok (.iload_n 1, 1) := by decide +kernel
theorem d_Mo_seen_6 : decode (yB Y_Mo_seen) 6 = .ok (.invokestatic 194, 3) := by decide +kernel
theorem d_Mo_seen_9 : decode (yB Y_Mo_seen) 9 = .ok (.ifCond .eq 15, 3) := by decide +kernel
theorem d_Mo_seen_12 : decode (yB Y_Mo_seen) 12 = .ok (.iload_n 2, 1) := by decide +kernel
theorem d_Mo_seen_13 : decode (yB Y_Mo_seen) 13 = .ok (.i2l, 1) := by decide +kernel
theorem d_Mo_seen_14 : decode (yB Y_Mo_seen) 14 = .ok (.lconst 0, 1) := by decide +kernel
theorem d_Mo_seen_15 : decode (yB Y_Mo_seen) 15 = .ok (.ldc2_w 230, 3) := by decide +kernel
theorem d_Mo_seen_18 : decode (yB Y_Mo_seen) 18 = .ok (.invokestatic 176, 3) := by decide +kernel
theorem d_Mo_seen_21 : decode (yB Y_Mo_seen) 21 = .ok (.ifCond .ne 9, 3) := by decide +kernel
theorem d_Mo_seen_24 : decode (yB Y_Mo_seen) 24 = .ok (.aload_n 0, 1) := by decide +kernel
theorem d_Mo_seen_25 : decode (yB Y_Mo_seen) 25 = .ok (.iconst (-1), 1) := by decide +kernel
theorem d_Mo_seen_26 : decode (yB Y_Mo_seen) 26 = .ok (.invokevirtual 165, 3) := by decide +kernel
theorem d_Mo_seen_29 : decode (yB Y_Mo_seen) 29 = .ok (.ireturn, 1) := by decide +kernel
theorem d_Mo_seen_30 : decode (yB Y_Mo_seen) 30 = .ok (.aload_n 0, 1) := by decide +kernel
theorem d_Mo_seen_31 : decode (yB Y_Mo_seen) 31 = .ok (.getfield 13, 3) := by decide +kernel
theorem d_Mo_seen_34 : decode (yB Y_Mo_seen) 34 = .ok (.iconst 1, 1) := by decide +kernel
theorem d_Mo_seen_35 : decode (yB Y_Mo_seen) 35 = .ok (.iaload, 1) := by decide +kernel
theorem d_Mo_seen_36 : decode (yB Y_Mo_seen) 36 = .ok (.istore_n 3, 1) := by decide +kernel
theorem d_Mo_seen_37 : decode (yB Y_Mo_seen) 37 = .ok (.iload_n 3, 1) := by decide +kernel
theorem d_Mo_seen_38 : decode (yB Y_Mo_seen) 38 = .ok (.bipush 6, 2) := by decide +kernel
theorem d_Mo_seen_40 : decode (yB Y_Mo_seen) 40 = .ok (.if_icmp .ne 10, 3) := by decide +kernel
theorem d_Mo_seen_43 : decode (yB Y_Mo_seen) 43 = .ok (.aload_n 0, 1) := by decide +kernel
theorem d_Mo_seen_44 : decode (yB Y_Mo_seen) 44 = .ok (.bipush (-5), 2) := by decide +kernel
theorem d_Mo_seen_46 : decode (yB Y_Mo_seen) 46 = .ok (.invokevirtual 165, 3) := by decide +kernel
theorem d_Mo_seen_49 : decode (yB Y_Mo_seen) 49 = .ok (.ireturn, 1) := by decide +kernel
theorem d_Mo_seen_50 : decode (yB Y_Mo_seen) 50 = .ok (.aload_n 0, 1) := by decide +kernel
theorem d_Mo_seen_51 : decode (yB Y_Mo_seen) 51 = .ok (.getfield 13, 3) := by decide +kernel
theorem d_Mo_seen_54 : decode (yB Y_Mo_seen) 54 = .ok (.bipush 65, 2) := by decide +kernel
theorem d_Mo_seen_56 : decode (yB Y_Mo_seen) 56 = .ok (.iconst 2, 1) := by decide +kernel
theorem d_Mo_seen_57 : decode (yB Y_Mo_seen) 57 = .ok (.iload_n 3, 1) := by decide +kernel
theorem d_Mo_seen_58 : decode (yB Y_Mo_seen) 58 = .ok (.imul, 1) := by decide +kernel
theorem d_Mo_seen_59 : decode (yB Y_Mo_seen) 59 = .ok (.iadd, 1) := by decide +kernel
theorem d_Mo_seen_60 : decode (yB Y_Mo_seen) 60 = .ok (.iload_n 1, 1) := by decide +kernel
theorem d_Mo_seen_61 : decode (yB Y_Mo_seen) 61 = .ok (.iastore, 1) := by decide +kernel
theorem d_Mo_seen_62 : decode (yB Y_Mo_seen) 62 = .ok (.aload_n 0, 1) := by decide +kernel
theorem d_Mo_seen_63 : decode (yB Y_Mo_seen) 63 = .ok (.getfield 13, 3) := by decide +kernel
theorem d_Mo_seen_66 : decode (yB Y_Mo_seen) 66 = .ok (.bipush 65, 2) := by decide +kernel
theorem d_Mo_seen_68 : decode (yB Y_Mo_seen) 68 = .ok (.iconst 2, 1) := by decide +kernel
theorem d_Mo_seen_69 : decode (yB Y_Mo_seen) 69 = .ok (.iload_n 3, 1) := by decide +kernel
theorem d_Mo_seen_70 : decode (yB Y_Mo_seen) 70 = .ok (.imul, 1) := by decide +kernel
theorem d_Mo_seen_71 : decode (yB Y_Mo_seen) 71 = .ok (.iadd, 1) := by decide +kernel
theorem d_Mo_seen_72 : decode (yB Y_Mo_seen) 72 = .ok (.iconst 1, 1) := by decide +kernel
theorem d_Mo_seen_73 : decode (yB Y_Mo_seen) 73 = .ok (.iadd, 1) := by decide +kernel
theorem d_Mo_seen_74 : decode (yB Y_Mo_seen) 74 = .ok (.iload_n 2, 1) := by decide +kernel
theorem d_Mo_seen_75 : decode (yB Y_Mo_seen) 75 = .ok (.iastore, 1) := by decide +kernel
theorem d_Mo_seen_76 : decode (yB Y_Mo_seen) 76 = .ok (.aload_n 0, 1) := by decide +kernel
theorem d_Mo_seen_77 : decode (yB Y_Mo_seen) 77 = .ok (.getfield 13, 3) := by decide +kernel
theorem d_Mo_seen_80 : decode (yB Y_Mo_seen) 80 = .ok (.iconst 1, 1) := by decide +kernel
theorem d_Mo_seen_81 : decode (yB Y_Mo_seen) 81 = .ok (.dup2, 1) := by decide +kernel
theorem d_Mo_seen_82 : decode (yB Y_Mo_seen) 82 = .ok (.iaload, 1) := by decide +kernel
theorem d_Mo_seen_83 : decode (yB Y_Mo_seen) 83 = .ok (.iconst 1, 1) := by decide +kernel
theorem d_Mo_seen_84 : decode (yB Y_Mo_seen) 84 = .ok (.iadd, 1) := by decide +kernel
theorem d_Mo_seen_85 : decode (yB Y_Mo_seen) 85 = .ok (.iastore, 1) := by decide +kernel
theorem d_Mo_seen_86 : decode (yB Y_Mo_seen) 86 = .ok (.aload_n 0, 1) := by decide +kernel
theorem d_Mo_seen_87 : decode (yB Y_Mo_seen) 87 = .ok (.iload_n 3, 1) := by decide +kernel
theorem d_Mo_seen_88 : decode (yB Y_Mo_seen) 88 = .ok (.iconst 1, 1) := by decide +kernel
theorem d_Mo_seen_89 : decode (yB Y_Mo_seen) 89 = .ok (.iadd, 1) := by decide +kernel
theorem d_Mo_seen_90 : decode (yB Y_Mo_seen) 90 = .ok (.invokevirtual 165, 3) := by decide +kernel
theorem d_Mo_seen_93 : decode (yB Y_Mo_seen) 93 = .ok (.ireturn, 1) := by decide +kernel
def F_Mo_seen_b24 (n : Nat) (E : zE) (S : zS) (a0 : Nat) (M : zH) : Option (Int32 × zH) :=
  (zck S a0 11).bind fun u_1 =>
  (F_Mo_tell n E S a0 (-1) M).bind fun q_2 =>
  some (q_2.1, q_2.2)
def F_Mo_seen (n : Nat) (E : zE) (S : zS) (a0 : Nat) (x1 : Int32) (x2 : Int32) (M : zH) : Option (Int32 × zH) :=
  (zpI S M a0 11 0 0).bind fun m_3 =>
  (F_Mo_isField n E S x1 m_3).bind fun q_4 =>
  if q_4.1 = true then
    (F_Mo_in n E S x2.toInt64 0 400 q_4.2).bind fun q_6 =>
    if q_6.1 = true then
      (zgR S a0 11 3).bind fun b_8 =>
      (zldI S q_6.2 b_8 1).bind fun v_9 =>
      if v_9 = 6 then
        (F_Mo_tell n E S a0 (-5) q_6.2).bind fun q_11 =>
        some (q_11.1, q_11.2)
      else
        (zstI S q_6.2 b_8 (65 + (2 * v_9)) x1).bind fun m_12 =>
        (zstI S m_12 b_8 ((65 + (2 * v_9)) + 1) x2).bind fun m_13 =>
        (zldI S m_13 b_8 1).bind fun v_14 =>
        (zstI S m_13 b_8 1 (v_14 + 1)).bind fun m_15 =>
        (F_Mo_tell n E S a0 (v_9 + 1) m_15).bind fun q_16 =>
        some (q_16.1, q_16.2)
    else
      F_Mo_seen_b24 n E S a0 q_6.2
  else
    F_Mo_seen_b24 n E S a0 q_4.2
theorem K_Mo_seen_b24 (n : Nat) (E : zE) (S : zS) (a0 : Nat) (M : zH) (r : Int32) (M' : zH)  (h : F_Mo_seen_b24 n E S a0 M = some (r, M')) : zG E Y_Mo_seen (some (.int r), S, M') 24 [(0, .ref a0)] [] S M 0 0 := by
  unfold F_Mo_seen_b24 at h
  refine zi_aload_n 0 d_Mo_seen_24 rfl ?_
  refine zi_iconst (-1) d_Mo_seen_25 rfl ?_
  obtain ⟨u_1, eu_1, h⟩ := zbind h
  obtain ⟨q_2, eq_2, h⟩ := zbind h
  refine zo_virt (k' := 0) (n' := 0) 29 [.int (-1)] [] [.int q_2.1] zkd_11 (zck_s eu_1) (C_Mo_tell n E S a0 (-1) M q_2.1 q_2.2 eq_2) d_Mo_seen_26 tw_1410 tw_1407 tw_1409 ts_36 tw_13 dd_Mo_tell ⟨Nat.le_of_ble_eq_true rfl, Nat.le_of_ble_eq_true rfl, Nat.le_of_ble_eq_true rfl, Nat.le_of_ble_eq_true rfl⟩ (Nat.le_of_ble_eq_true rfl) rfl rfl rfl rfl ?_
  cases h
  exact zo_ret d_Mo_seen_29 (Nat.le_of_ble_eq_true rfl) (Nat.le_of_ble_eq_true rfl) rfl
theorem K_Mo_seen (n : Nat) (E : zE) (S : zS) (a0 : Nat) (x1 : Int32) (x2 : Int32) (M : zH) (r : Int32) (M' : zH)  (h : F_Mo_seen n E S a0 x1 x2 M = some (r, M')) : zG E Y_Mo_seen (some (.int r), S, M') 0 [(0, .ref a0), (1, .int x1), (2, .int x2)] [] S M 0 0 := by
  unfold F_Mo_seen at h
  refine zi_aload_n 0 d_Mo_seen_0 rfl ?_
  refine zi_iconst 0 d_Mo_seen_1 rfl ?_
  obtain ⟨m_3, em_3, h⟩ := zbind h
  refine zo_putI 5 zkd_11 0 d_Mo_seen_2 em_3 rfl rfl rfl tw_1231 rfl ?_
  refine zi_iload_n 1 d_Mo_seen_5 rfl ?_
  obtain ⟨q_4, eq_4, h⟩ := zbind h
  refine zo_stat (k' := 0) (n' := 0) 9 [.int x1] [] [.int (bI q_4.1)] (C_Mo_isField n E S x1 m_3 q_4.1 q_4.2 eq_4) d_Mo_seen_6 tw_1440 tw_1438 tw_1439 tw_13 dd_Mo_isField ⟨Nat.le_of_ble_eq_true rfl, Nat.le_of_ble_eq_true rfl, Nat.le_of_ble_eq_true rfl, Nat.le_of_ble_eq_true rfl⟩ (Nat.le_of_ble_eq_true rfl) rfl rfl rfl rfl ?_
  refine zo_ifeqB d_Mo_seen_9 rfl 12 rfl (fun c_5 => ?_) (fun c_5 => ?_)
  · rw [if_neg c_5] at h
    refine zi_lo [(0, .ref a0)] [0] rfl ?_
    exact K_Mo_seen_b24 n E S a0 q_4.2 r M'  h
  · rw [if_pos c_5] at h
    refine zi_iload_n 2 d_Mo_seen_12 rfl ?_
    refine zi_i2l d_Mo_seen_13 ?_
    refine zi_lconst 0 d_Mo_seen_14 rfl ?_
    refine zi_ldc2 d_Mo_seen_15 tw_1517 ?_
    obtain ⟨q_6, eq_6, h⟩ := zbind h
    refine zo_stat (k' := 0) (n' := 0) 21 [.long x2.toInt64, .long 0, .long 400] [] [.int (bI q_6.1)] (C_Mo_in n E S x2.toInt64 0 400 q_4.2 q_6.1 q_6.2 eq_6) d_Mo_seen_18 tw_1421 tw_1419 tw_1420 tw_13 dd_Mo_in ⟨Nat.le_of_ble_eq_true rfl, Nat.le_of_ble_eq_true rfl, Nat.le_of_ble_eq_true rfl, Nat.le_of_ble_eq_true rfl⟩ (Nat.le_of_ble_eq_true rfl) rfl rfl rfl rfl ?_
    refine zo_ifneB d_Mo_seen_21 rfl 24 rfl (fun c_7 => ?_) (fun c_7 => ?_)
    · rw [if_pos c_7] at h
      refine zi_aload_n 0 d_Mo_seen_30 rfl ?_
      obtain ⟨b_8, eb_8, h⟩ := zbind h
      refine zo_getR 34 zkd_11 3 d_Mo_seen_31 eb_8 rfl tw_1234 rfl ?_
      refine zi_iconst 1 d_Mo_seen_34 rfl ?_
      obtain ⟨v_9, ev_9, h⟩ := zbind h
      refine zo_iald 36 d_Mo_seen_35 ev_9 rfl ?_
      refine zi_istore_n [(3, .int v_9), (0, .ref a0), (1, .int x1), (2, .int x2)] d_Mo_seen_36 (by decide) rfl ?_
      refine zi_iload_n 0 d_Mo_seen_37 rfl ?_
      refine zi_bipush 6 d_Mo_seen_38 rfl ?_
      refine zi_icmp_ne (tgt := 50) d_Mo_seen_40 rfl (fun c_10 => ?_) (fun c_10 => ?_)
      · rw [if_neg c_10] at h
        refine zi_aload_n 1 d_Mo_seen_50 rfl ?_
        refine zo_getR 54 zkd_11 3 d_Mo_seen_51 eb_8 rfl tw_1234 rfl ?_
        refine zi_bipush 65 d_Mo_seen_54 rfl ?_
        refine zi_iconst 2 d_Mo_seen_56 rfl ?_
        refine zi_iload_n 0 d_Mo_seen_57 rfl ?_
        refine zi_imul d_Mo_seen_58 ?_
        refine zi_iadd d_Mo_seen_59 ?_
        refine zi_iload_n 2 d_Mo_seen_60 rfl ?_
        obtain ⟨m_12, em_12, h⟩ := zbind h
        refine zo_iast 62 d_Mo_seen_61 em_12 rfl ?_
        refine zi_aload_n 1 d_Mo_seen_62 rfl ?_
        refine zo_getR 66 zkd_11 3 d_Mo_seen_63 eb_8 rfl tw_1234 rfl ?_
        refine zi_bipush 65 d_Mo_seen_66 rfl ?_
        refine zi_iconst 2 d_Mo_seen_68 rfl ?_
        refine zi_iload_n 0 d_Mo_seen_69 rfl ?_
        refine zi_imul d_Mo_seen_70 ?_
        refine zi_iadd d_Mo_seen_71 ?_
        refine zi_iconst 1 d_Mo_seen_72 rfl ?_
        refine zi_iadd d_Mo_seen_73 ?_
        refine zi_iload_n 3 d_Mo_seen_74 rfl ?_
        obtain ⟨m_13, em_13, h⟩ := zbind h
        refine zo_iast 76 d_Mo_seen_75 em_13 rfl ?_
        refine zi_aload_n 1 d_Mo_seen_76 rfl ?_
        refine zo_getR 80 zkd_11 3 d_Mo_seen_77 eb_8 rfl tw_1234 rfl ?_
        refine zi_iconst 1 d_Mo_seen_80 rfl ?_
        refine zi_dup2 d_Mo_seen_81 rfl rfl ?_
        obtain ⟨v_14, ev_14, h⟩ := zbind h
        refine zo_iald 83 d_Mo_seen_82 ev_14 rfl ?_
        refine zi_iconst 1 d_Mo_seen_83 rfl ?_
        refine zi_iadd d_Mo_seen_84 ?_
        obtain ⟨m_15, em_15, h⟩ := zbind h
        refine zo_iast 86 d_Mo_seen_85 em_15 rfl ?_
        refine zi_aload_n 1 d_Mo_seen_86 rfl ?_
        refine zi_iload_n 0 d_Mo_seen_87 rfl ?_
        refine zi_iconst 1 d_Mo_seen_88 rfl ?_
        refine zi_iadd d_Mo_seen_89 ?_
        obtain ⟨q_16, eq_16, h⟩ := zbind h
        refine zo_virt (k' := 0) (n' := 0) 93 [.int (v_9 + 1)] [] [.int q_16.1] zkd_11 (zgR_s eb_8).1 (C_Mo_tell n E S a0 (v_9 + 1) m_15 q_16.1 q_16.2 eq_16) d_Mo_seen_90 tw_1410 tw_1407 tw_1409 ts_36 tw_13 dd_Mo_tell ⟨Nat.le_of_ble_eq_true rfl, Nat.le_of_ble_eq_true rfl, Nat.le_of_ble_eq_true rfl, Nat.le_of_ble_eq_true rfl⟩ (Nat.le_of_ble_eq_true rfl) rfl rfl rfl rfl ?_
        cases h
        exact zo_ret d_Mo_seen_93 (Nat.le_of_ble_eq_true rfl) (Nat.le_of_ble_eq_true rfl) rfl
      · rw [if_pos c_10] at h
        refine zi_aload_n 1 d_Mo_seen_43 rfl ?_
        refine zi_bipush (-5) d_Mo_seen_44 rfl ?_
        obtain ⟨q_11, eq_11, h⟩ := zbind h
        refine zo_virt (k' := 0) (n' := 0) 49 [.int (-5)] [] [.int q_11.1] zkd_11 (zgR_s eb_8).1 (C_Mo_tell n E S a0 (-5) q_6.2 q_11.1 q_11.2 eq_11) d_Mo_seen_46 tw_1410 tw_1407 tw_1409 ts_36 tw_13 dd_Mo_tell ⟨Nat.le_of_ble_eq_true rfl, Nat.le_of_ble_eq_true rfl, Nat.le_of_ble_eq_true rfl, Nat.le_of_ble_eq_true rfl⟩ (Nat.le_of_ble_eq_true rfl) rfl rfl rfl rfl ?_
        cases h
        exact zo_ret d_Mo_seen_49 (Nat.le_of_ble_eq_true rfl) (Nat.le_of_ble_eq_true rfl) rfl
    · rw [if_neg c_7] at h
      refine zi_lo [(0, .ref a0)] [0] rfl ?_
      exact K_Mo_seen_b24 n E S a0 q_6.2 r M'  h
theorem C_Mo_seen (n : Nat) (E : zE) (S : zS) (a0 : Nat) (x1 : Int32) (x2 : Int32) (M : zH) (r : Int32) (M' : zH) (h : F_Mo_seen n E S a0 x1 x2 M = some (r, M')) : zC E Y_Mo_seen [.ref a0, .int x1, .int x2] S M (some (.int r), S, M') :=
  zC.of (Or.inl (show plainName "NightColanderModel" = true by decide)) (Nat.le_of_ble_eq_true rfl) (trivial) (K_Mo_seen n E S a0 x1 x2 M r M' h)
theorem d_Mo_forget_0 : decode (yB Y_Mo_forget) 0 = .ok (.aload_n 0, 1) := by decide +kernel
theorem d_Mo_forget_1 : decode (yB Y_Mo_forget) 1 = .ok (.iconst 0, 1) := by decide +kernel
theorem d_Mo_forget_2 : decode (yB Y_Mo_forget) 2 = .ok (.putfield 156, 3) := by decide +kernel
theorem d_Mo_forget_5 : decode (yB Y_Mo_forget) 5 = .ok (.aload_n 0, 1) := by decide +kernel
theorem d_Mo_forget_6 : decode (yB Y_Mo_forget) 6 = .ok (.getfield 13, 3) := by decide +kernel
theorem d_Mo_forget_9 : decode (yB Y_Mo_forget) 9 = .ok (.iconst 1, 1) := by decide +kernel
theorem d_Mo_forget_10 : decode (yB Y_Mo_forget) 10 = .ok (.iaload, 1) := by decide +kernel
theorem d_Mo_forget_11 : decode (yB Y_Mo_forget) 11 = .ok (.istore_n 1, 1) := by decide +kernel
theorem d_Mo_forget_12 : decode (yB Y_Mo_forget) 12 = .ok (.aload_n 0, 1) := by decide +kernel
theorem d_Mo_forget_13 : decode (yB Y_Mo_forget) 13 = .ok (.getfield 13, 3) := by decide +kernel
theorem d_Mo_forget_16 : decode (yB Y_Mo_forget) 16 = .ok (.iconst 1, 1) := by decide +kernel
theorem d_Mo_forget_17 : decode (yB Y_Mo_forget) 17 = .ok (.iconst 0, 1) := by decide +kernel
theorem d_Mo_forget_18 : decode (yB Y_Mo_forget) 18 = .ok (.iastore, 1) := by decide +kernel
theorem d_Mo_forget_19 : decode (yB Y_Mo_forget) 19 = .ok (.iload_n 1, 1) := by decide +kernel
theorem d_Mo_forget_20 : decode (yB Y_Mo_forget) 20 = .ok (.ireturn, 1) := by decide +kernel
def F_Mo_forget (n : Nat) (E : zE) (S : zS) (a0 : Nat) (M : zH) : Option (Int32 × zH) :=
  (zpI S M a0 11 0 0).bind fun m_1 =>
  (zgR S a0 11 3).bind fun b_2 =>
  (zldI S m_1 b_2 1).bind fun v_3 =>
  (zstI S m_1 b_2 1 0).bind fun m_4 =>
  some (v_3, m_4)
theorem K_Mo_forget (n : Nat) (E : zE) (S : zS) (a0 : Nat) (M : zH) (r : Int32) (M' : zH)  (h : F_Mo_forget n E S a0 M = some (r, M')) : zG E Y_Mo_forget (some (.int r), S, M') 0 [(0, .ref a0)] [] S M 0 0 := by
  unfold F_Mo_forget at h
  refine zi_aload_n 0 d_Mo_forget_0 rfl ?_
  refine zi_iconst 0 d_Mo_forget_1 rfl ?_
  obtain ⟨m_1, em_1, h⟩ := zbind h
  refine zo_putI 5 zkd_11 0 d_Mo_forget_2 em_1 rfl rfl rfl tw_1231 rfl ?_
  refine zi_aload_n 0 d_Mo_forget_5 rfl ?_
  obtain ⟨b_2, eb_2, h⟩ := zbind h
  refine zo_getR 9 zkd_11 3 d_Mo_forget_6 eb_2 rfl tw_1234 rfl ?_
  refine zi_iconst 1 d_Mo_forget_9 rfl ?_
  obtain ⟨v_3, ev_3, h⟩ := zbind h
  refine zo_iald 11 d_Mo_forget_10 ev_3 rfl ?_
  refine zi_istore_n [(1, .int v_3), (0, .ref a0)] d_Mo_forget_11 (by decide) rfl ?_
  refine zi_aload_n 1 d_Mo_forget_12 rfl ?_
  refine zo_getR 16 zkd_11 3 d_Mo_forget_13 eb_2 rfl tw_1234 rfl ?_
  refine zi_iconst 1 d_Mo_forget_16 rfl ?_
  refine zi_iconst 0 d_Mo_forget_17 rfl ?_
  obtain ⟨m_4, em_4, h⟩ := zbind h
  refine zo_iast 19 d_Mo_forget_18 em_4 rfl ?_
  refine zi_iload_n 0 d_Mo_forget_19 rfl ?_
  cases h
  exact zo_ret d_Mo_forget_20 (Nat.le_of_ble_eq_true rfl) (Nat.le_of_ble_eq_true rfl) rfl
theorem C_Mo_forget (n : Nat) (E : zE) (S : zS) (a0 : Nat) (M : zH) (r : Int32) (M' : zH) (h : F_Mo_forget n E S a0 M = some (r, M')) : zC E Y_Mo_forget [.ref a0] S M (some (.int r), S, M') :=
  zC.of (Or.inl (show plainName "NightColanderModel" = true by decide)) (Nat.le_of_ble_eq_true rfl) (trivial) (K_Mo_forget n E S a0 M r M' h)
theorem d_Mo_turnOf_0 : decode (yB Y_Mo_turnOf) 0 = .ok (.iload_n 0, 1) := by decide +kernel
theorem d_Mo_turnOf_1 : decode (yB Y_Mo_turnOf) 1 = .ok (.bipush 9, 2) := by decide +kernel
theorem d_Mo_turnOf_3 : decode (yB Y_Mo_turnOf) 3 = .ok (.iconst 3, 1) := by decide +kernel
theorem d_Mo_turnOf_4 : decode (yB Y_Mo_turnOf) 4 = .ok (.iload_n 1, 1) := by decide +kernel
theorem d_Mo_turnOf_5 : decode (yB Y_Mo_turnOf) 5 = .ok (.imul, 1) := by decide +kernel
theorem d_Mo_turnOf_6 : decode (yB Y_Mo_turnOf) 6 = .ok (.isub, 1) := by decide +kernel
theorem d_Mo_turnOf_7 : decode (yB Y_Mo_turnOf) 7 = .ok (.ishr, 1) := by decide +kernel
theorem d_Mo_turnOf_8 : decode (yB Y_Mo_turnOf) 8 = .ok (.bipush 7, 2) := by decide +kernel
theorem d_Mo_turnOf_10 : decode (yB Y_Mo_turnOf) 10 = .ok (.iand, 1) := by decide +kernel
theorem d_Mo_turnOf_11 : decode (yB Y_Mo_turnOf) 11 = .ok (.ireturn, 1) := by decide +kernel
def F_Mo_turnOf (n : Nat) (E : zE) (S : zS) (x0 : Int32) (x1 : Int32) (M : zH) : Option (Int32 × zH) :=
  some ((x0 >>> ((9 - (3 * x1)) &&& (31 : Int32))) &&& (7 : Int32), M)
theorem K_Mo_turnOf (n : Nat) (E : zE) (S : zS) (x0 : Int32) (x1 : Int32) (M : zH) (r : Int32) (M' : zH)  (h : F_Mo_turnOf n E S x0 x1 M = some (r, M')) : zG E Y_Mo_turnOf (some (.int r), S, M') 0 [(0, .int x0), (1, .int x1)] [] S M 0 0 := by
  unfold F_Mo_turnOf at h
  refine zi_iload_n 0 d_Mo_turnOf_0 rfl ?_
  refine zi_bipush 9 d_Mo_turnOf_1 rfl ?_
  refine zi_iconst 3 d_Mo_turnOf_3 rfl ?_
  refine zi_iload_n 1 d_Mo_turnOf_4 rfl ?_
  refine zi_imul d_Mo_turnOf_5 ?_
  refine zi_isub d_Mo_turnOf_6 ?_
  refine zi_ishr d_Mo_turnOf_7 ?_
  refine zi_bipush 7 d_Mo_turnOf_8 rfl ?_
  refine zi_iand d_Mo_turnOf_10 ?_
  cases h
  exact zo_ret d_Mo_turnOf_11 (Nat.le_of_ble_eq_true rfl) (Nat.le_of_ble_eq_true rfl) rfl
theorem C_Mo_turnOf (n : Nat) (E : zE) (S : zS) (x0 : Int32) (x1 : Int32) (M : zH) (r : Int32) (M' : zH) (h : F_Mo_turnOf n E S x0 x1 M = some (r, M')) : zC E Y_Mo_turnOf [.int x0, .int x1] S M (some (.int r), S, M') :=
  zC.of (Or.inl (show plainName "NightColanderModel" = true by decide)) (Nat.le_of_ble_eq_true rfl) (trivial) (K_Mo_turnOf n E S x0 x1 M r M' h)
theorem d_Mo_fallsOn_0 : decode (yB Y_Mo_fallsOn) 0 = .ok (.iconst 0, 1) := by decide +kernel
theorem d_Mo_fallsOn_1 : decode (yB Y_Mo_fallsOn) 1 = .ok (.istore_n 3, 1) := by decide +kernel
theorem d_Mo_fallsOn_2 : decode (yB Y_Mo_fallsOn) 2 = .ok (.iconst 0, 1) := by decide +kernel
theorem d_Mo_fallsOn_3 : decode (yB Y_Mo_fallsOn) 3 = .ok (.istore 4, 2) := by decide +kernel
theorem d_Mo_fallsOn_5 : decode (yB Y_Mo_fallsOn) 5 = .ok (.iload 4, 2) := by decide +kernel
theorem d_Mo_fallsOn_7 : decode (yB Y_Mo_fallsOn) 7 = .ok (.iconst 4, 1) := by decide +kernel
theorem d_Mo_fallsOn_8 : decode (yB Y_Mo_fallsOn) 8 = .ok (.if_icmp .ge 34, 3) := by decide +kernel
theorem d_Mo_fallsOn_11 : decode (yB Y_Mo_fallsOn) 11 = .ok (.iload_n 3, 1) := by decide +kernel
theorem d_Mo_fallsOn_12 : decode (yB Y_Mo_fallsOn) 12 = .ok (.aload_n 0, 1) := by decide +kernel
theorem d_Mo_fallsOn_13 : decode (yB Y_Mo_fallsOn) 13 = .ok (.getfield 124, 3) := by decide +kernel
theorem d_Mo_fallsOn_16 : decode (yB Y_Mo_fallsOn) 16 = .ok (.bipush 64, 2) := by decide +kernel
theorem d_Mo_fallsOn_18 : decode (yB Y_Mo_fallsOn) 18 = .ok (.iload 4, 2) := by decide +kernel
theorem d_Mo_fallsOn_20 : decode (yB Y_Mo_fallsOn) 20 = .ok (.imul, 1) := by decide +kernel
theorem d_Mo_fallsOn_21 : decode (yB Y_Mo_fallsOn) 21 = .ok (.bipush 8, 2) := by decide +kernel
theorem d_Mo_fallsOn_23 : decode (yB Y_Mo_fallsOn) 23 = .ok (.iload_n 1, 1) := by decide +kernel
theorem d_Mo_fallsOn_24 : decode (yB Y_Mo_fallsOn) 24 = .ok (.iload 4, 2) := by decide +kernel
theorem d_Mo_fallsOn_26 : decode (yB Y_Mo_fallsOn) 26 = .ok (.invokestatic 481, 3) := by decide +kernel
theorem d_Mo_fallsOn_29 : decode (yB Y_Mo_fallsOn) 29 = .ok (.imul, 1) := by decide +kernel
theorem d_Mo_fallsOn_30 : decode (yB Y_Mo_fallsOn) 30 = .ok (.iadd, 1) := by decide +kernel
theorem d_Mo_fallsOn_31 : decode (yB Y_Mo_fallsOn) 31 = .ok (.iload_n 2, 1) := by decide +kernel
theorem d_Mo_fallsOn_32 : decode (yB Y_Mo_fallsOn) 32 = .ok (.iadd, 1) := by decide +kernel
theorem d_Mo_fallsOn_33 : decode (yB Y_Mo_fallsOn) 33 = .ok (.iaload, 1) := by decide +kernel
theorem d_Mo_fallsOn_34 : decode (yB Y_Mo_fallsOn) 34 = .ok (.iadd, 1) := by decide +kernel
theorem d_Mo_fallsOn_35 : decode (yB Y_Mo_fallsOn) 35 = .ok (.istore_n 3, 1) := by decide +kernel
theorem d_Mo_fallsOn_36 : decode (yB Y_Mo_fallsOn) 36 = .ok (.iinc 4 1, 3) := by decide +kernel
theorem d_Mo_fallsOn_39 : decode (yB Y_Mo_fallsOn) 39 = .ok (.goto (-34), 3) := by decide +kernel
theorem d_Mo_fallsOn_42 : decode (yB Y_Mo_fallsOn) 42 = .ok (.iload_n 3, 1) := by decide +kernel
theorem d_Mo_fallsOn_43 : decode (yB Y_Mo_fallsOn) 43 = .ok (.ireturn, 1) := by decide +kernel
def F_Mo_fallsOn_L5 (n : Nat) (E : zE) (S : zS) (r5 : Nat × Int32 × Int32 × Int32 × Int32 × zH → Option (Int32 × zH)) (a0 : Nat) (x1 : Int32) (x2 : Int32) (x3 : Int32) (x4 : Int32) (M : zH) : Option (Int32 × zH) :=
  if 4 ≤ x4 then
    some (x3, M)
  else
    (zgR S a0 11 45).bind fun b_2 =>
    (F_Mo_turnOf n E S x1 x4 M).bind fun q_3 =>
    (zldI S q_3.2 b_2 (((64 * x4) + (8 * q_3.1)) + x2)).bind fun v_4 =>
    r5 (a0, x1, x2, x3 + v_4, x4 + 1, q_3.2)
def F_Mo_fallsOn_b5 (n : Nat) (E : zE) (S : zS) : Nat × Int32 × Int32 × Int32 × Int32 × zH → Option (Int32 × zH) := zfix (fun r5 s => F_Mo_fallsOn_L5 n E S r5 s.1 s.2.1 s.2.2.1 s.2.2.2.1 s.2.2.2.2.1 s.2.2.2.2.2) n
def F_Mo_fallsOn (n : Nat) (E : zE) (S : zS) (a0 : Nat) (x1 : Int32) (x2 : Int32) (M : zH) : Option (Int32 × zH) :=
  F_Mo_fallsOn_b5 n E S (a0, x1, x2, 0, 0, M)
theorem K_Mo_fallsOn_L5 (n : Nat) (E : zE) (S : zS) (r5 : Nat × Int32 × Int32 × Int32 × Int32 × zH → Option (Int32 × zH)) (a0 : Nat) (x1 : Int32) (x2 : Int32) (x3 : Int32) (x4 : Int32) (M : zH) (r : Int32) (M' : zH) (hr5 : ∀ (a0 : Nat) (x1 : Int32) (x2 : Int32) (x3 : Int32) (x4 : Int32) (M : zH), r5 (a0, x1, x2, x3, x4, M) = some (r, M') → zG E Y_Mo_fallsOn (some (.int r), S, M') 5 [(0, .ref a0), (1, .int x1), (2, .int x2), (3, .int x3), (4, .int x4)] [] S M 0 0) (h : F_Mo_fallsOn_L5 n E S r5 a0 x1 x2 x3 x4 M = some (r, M')) : zG E Y_Mo_fallsOn (some (.int r), S, M') 5 [(0, .ref a0), (1, .int x1), (2, .int x2), (3, .int x3), (4, .int x4)] [] S M 0 0 := by
  unfold F_Mo_fallsOn_L5 at h
  refine zi_iload 4 d_Mo_fallsOn_5 rfl ?_
  refine zi_iconst 4 d_Mo_fallsOn_7 rfl ?_
  refine zi_icmp_ge (tgt := 42) d_Mo_fallsOn_8 rfl (fun c_1 => ?_) (fun c_1 => ?_)
  · rw [if_pos c_1] at h
    refine zi_iload_n 3 d_Mo_fallsOn_42 rfl ?_
    cases h
    exact zo_ret d_Mo_fallsOn_43 (Nat.le_of_ble_eq_true rfl) (Nat.le_of_ble_eq_true rfl) rfl
  · rw [if_neg c_1] at h
    refine zi_iload_n 3 d_Mo_fallsOn_11 rfl ?_
    refine zi_aload_n 0 d_Mo_fallsOn_12 rfl ?_
    obtain ⟨b_2, eb_2, h⟩ := zbind h
    refine zo_getR 16 zkd_11 45 d_Mo_fallsOn_13 eb_2 rfl tw_1276 rfl ?_
    refine zi_bipush 64 d_Mo_fallsOn_16 rfl ?_
    refine zi_iload 4 d_Mo_fallsOn_18 rfl ?_
    refine zi_imul d_Mo_fallsOn_20 ?_
    refine zi_bipush 8 d_Mo_fallsOn_21 rfl ?_
    refine zi_iload_n 1 d_Mo_fallsOn_23 rfl ?_
    refine zi_iload 4 d_Mo_fallsOn_24 rfl ?_
    obtain ⟨q_3, eq_3, h⟩ := zbind h
    refine zo_stat (k' := 0) (n' := 0) 29 [.int x1, .int x4] [.int 8, .int (64 * x4), .ref b_2, .int x3] [.int q_3.1, .int 8, .int (64 * x4), .ref b_2, .int x3] (C_Mo_turnOf n E S x1 x4 M q_3.1 q_3.2 eq_3) d_Mo_fallsOn_26 tw_1793 tw_1791 tw_1792 tw_13 dd_Mo_turnOf ⟨Nat.le_of_ble_eq_true rfl, Nat.le_of_ble_eq_true rfl, Nat.le_of_ble_eq_true rfl, Nat.le_of_ble_eq_true rfl⟩ (Nat.le_of_ble_eq_true rfl) rfl rfl rfl rfl ?_
    refine zi_imul d_Mo_fallsOn_29 ?_
    refine zi_iadd d_Mo_fallsOn_30 ?_
    refine zi_iload_n 2 d_Mo_fallsOn_31 rfl ?_
    refine zi_iadd d_Mo_fallsOn_32 ?_
    obtain ⟨v_4, ev_4, h⟩ := zbind h
    refine zo_iald 34 d_Mo_fallsOn_33 ev_4 rfl ?_
    refine zi_iadd d_Mo_fallsOn_34 ?_
    refine zi_istore_n [(3, .int (x3 + v_4)), (0, .ref a0), (1, .int x1), (2, .int x2), (4, .int x4)] d_Mo_fallsOn_35 (by decide) rfl ?_
    refine zi_iinc 4 (x4 + 1) [(4, .int (x4 + 1)), (3, .int (x3 + v_4)), (0, .ref a0), (1, .int x1), (2, .int x2)] d_Mo_fallsOn_36 rfl rfl (by decide) rfl ?_
    refine zi_goto (tgt := 5) d_Mo_fallsOn_39 rfl ?_
    refine zi_lo [(0, .ref a0), (1, .int x1), (2, .int x2), (3, .int (x3 + v_4)), (4, .int (x4 + 1))] [2, 3, 4, 1, 0] rfl ?_
    exact hr5 a0 x1 x2 (x3 + v_4) (x4 + 1) q_3.2 h
theorem K_Mo_fallsOn_b5 (n : Nat) (E : zE) (S : zS) (a0 : Nat) (x1 : Int32) (x2 : Int32) (x3 : Int32) (x4 : Int32) (M : zH) (r : Int32) (M' : zH)  (h : F_Mo_fallsOn_b5 n E S (a0, x1, x2, x3, x4, M) = some (r, M')) : zG E Y_Mo_fallsOn (some (.int r), S, M') 5 [(0, .ref a0), (1, .int x1), (2, .int x2), (3, .int x3), (4, .int x4)] [] S M 0 0 := by
  have key : ∀ (k : Nat) (a0 : Nat) (x1 : Int32) (x2 : Int32) (x3 : Int32) (x4 : Int32) (M : zH), zfix (fun r5 s => F_Mo_fallsOn_L5 n E S r5 s.1 s.2.1 s.2.2.1 s.2.2.2.1 s.2.2.2.2.1 s.2.2.2.2.2) k (a0, x1, x2, x3, x4, M) = some (r, M') → zG E Y_Mo_fallsOn (some (.int r), S, M') 5 [(0, .ref a0), (1, .int x1), (2, .int x2), (3, .int x3), (4, .int x4)] [] S M 0 0 := by
    intro k
    induction k with
    | zero => intro a0 x1 x2 x3 x4 M h; cases h
    | succ k ih => intro a0 x1 x2 x3 x4 M h; exact K_Mo_fallsOn_L5 n E S _ a0 x1 x2 x3 x4 M r M'  (fun a0 x1 x2 x3 x4 M h => ih a0 x1 x2 x3 x4 M h) h
  exact key n a0 x1 x2 x3 x4 M h
theorem K_Mo_fallsOn (n : Nat) (E : zE) (S : zS) (a0 : Nat) (x1 : Int32) (x2 : Int32) (M : zH) (r : Int32) (M' : zH)  (h : F_Mo_fallsOn n E S a0 x1 x2 M = some (r, M')) : zG E Y_Mo_fallsOn (some (.int r), S, M') 0 [(0, .ref a0), (1, .int x1), (2, .int x2)] [] S M 0 0 := by
  unfold F_Mo_fallsOn at h
  refine zi_iconst 0 d_Mo_fallsOn_0 rfl ?_
  refine zi_istore_n [(3, .int 0), (0, .ref a0), (1, .int x1), (2, .int x2)] d_Mo_fallsOn_1 (by decide) rfl ?_
  refine zi_iconst 0 d_Mo_fallsOn_2 rfl ?_
  refine zi_istore [(4, .int 0), (3, .int 0), (0, .ref a0), (1, .int x1), (2, .int x2)] d_Mo_fallsOn_3 (by decide) rfl ?_
  refine zi_lo [(0, .ref a0), (1, .int x1), (2, .int x2), (3, .int 0), (4, .int 0)] [2, 3, 4, 1, 0] rfl ?_
  exact K_Mo_fallsOn_b5 n E S a0 x1 x2 0 0 M r M'  h
theorem C_Mo_fallsOn (n : Nat) (E : zE) (S : zS) (a0 : Nat) (x1 : Int32) (x2 : Int32) (M : zH) (r : Int32) (M' : zH) (h : F_Mo_fallsOn n E S a0 x1 x2 M = some (r, M')) : zC E Y_Mo_fallsOn [.ref a0, .int x1, .int x2] S M (some (.int r), S, M') :=
  zC.of (Or.inl (show plainName "NightColanderModel" = true by decide)) (Nat.le_of_ble_eq_true rfl) (trivial) (K_Mo_fallsOn n E S a0 x1 x2 M r M' h)
