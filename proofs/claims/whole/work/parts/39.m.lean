/-! METHODS (printed by gen/build.py): Mo_isNew Mo_findPlaced Mo_layCaught Mo_placed Mo_seen Mo_forget Mo_turnOf Mo_fallsOn Mo_canBe -/
theorem d_Mo_isNew_0 : decode (yB Y_Mo_isNew) 0 = .ok (.aload_n 0, 1) := by decide +kernel
theorem d_Mo_isNew_1 : decode (yB Y_Mo_isNew) 1 = .ok (.getfield 115, 3) := by decide +kernel
theorem d_Mo_isNew_4 : decode (yB Y_Mo_isNew) 4 = .ok (.bipush 8, 2) := by decide +kernel
theorem d_Mo_isNew_6 : decode (yB Y_Mo_isNew) 6 = .ok (.iload_n 1, 1) := by decide +kernel
theorem d_Mo_isNew_7 : decode (yB Y_Mo_isNew) 7 = .ok (.imul, 1) := by decide +kernel
theorem d_Mo_isNew_8 : decode (yB Y_Mo_isNew) 8 = .ok (.aload_n 0, 1) := by decide +kernel
theorem d_Mo_isNew_9 : decode (yB Y_Mo_isNew) 9 = .ok (.getfield 118, 3) := by decide +kernel
theorem d_Mo_isNew_12 : decode (yB Y_Mo_isNew) 12 = .ok (.iload_n 1, 1) := by decide +kernel
theorem d_Mo_isNew_13 : decode (yB Y_Mo_isNew) 13 = .ok (.iaload, 1) := by decide +kernel
theorem d_Mo_isNew_14 : decode (yB Y_Mo_isNew) 14 = .ok (.iadd, 1) := by decide +kernel
theorem d_Mo_isNew_15 : decode (yB Y_Mo_isNew) 15 = .ok (.iaload, 1) := by decide +kernel
theorem d_Mo_isNew_16 : decode (yB Y_Mo_isNew) 16 = .ok (.iconst (-1), 1) := by decide +kernel
theorem d_Mo_isNew_17 : decode (yB Y_Mo_isNew) 17 = .ok (.if_icmp .eq 7, 3) := by decide +kernel
theorem d_Mo_isNew_20 : decode (yB Y_Mo_isNew) 20 = .ok (.iconst 1, 1) := by decide +kernel
theorem d_Mo_isNew_21 : decode (yB Y_Mo_isNew) 21 = .ok (.goto 4, 3) := by decide +kernel
theorem d_Mo_isNew_24 : decode (yB Y_Mo_isNew) 24 = .ok (.iconst 0, 1) := by decide +kernel
theorem d_Mo_isNew_25 : decode (yB Y_Mo_isNew) 25 = .ok (.istore_n 2, 1) := by decide +kernel
theorem d_Mo_isNew_26 : decode (yB Y_Mo_isNew) 26 = .ok (.iconst 0, 1) := by decide +kernel
theorem d_Mo_isNew_27 : decode (yB Y_Mo_isNew) 27 = .ok (.istore_n 3, 1) := by decide +kernel
theorem d_Mo_isNew_28 : decode (yB Y_Mo_isNew) 28 = .ok (.iload_n 3, 1) := by decide +kernel
theorem d_Mo_isNew_29 : decode (yB Y_Mo_isNew) 29 = .ok (.iload_n 1, 1) := by decide +kernel
theorem d_Mo_isNew_30 : decode (yB Y_Mo_isNew) 30 = .ok (.if_icmp .ge 34, 3) := by decide +kernel
theorem d_Mo_isNew_33 : decode (yB Y_Mo_isNew) 33 = .ok (.iload_n 2, 1) := by decide +kernel
theorem d_Mo_isNew_34 : decode (yB Y_Mo_isNew) 34 = .ok (.ifCond .eq 22, 3) := by decide +kernel
theorem d_Mo_isNew_37 : decode (yB Y_Mo_isNew) 37 = .ok (.aload_n 0, 1) := by decide +kernel
theorem d_Mo_isNew_38 : decode (yB Y_Mo_isNew) 38 = .ok (.getfield 118, 3) := by decide +kernel
theorem d_Mo_isNew_41 : decode (yB Y_Mo_isNew) 41 = .ok (.iload_n 3, 1) := by decide +kernel
theorem d_Mo_isNew_42 : decode (yB Y_Mo_isNew) 42 = .ok (.iaload, 1) := by decide +kernel
theorem d_Mo_isNew_43 : decode (yB Y_Mo_isNew) 43 = .ok (.aload_n 0, 1) := by decide +kernel
theorem d_Mo_isNew_44 : decode (yB Y_Mo_isNew) 44 = .ok (.getfield 118, 3) := by decide +kernel
theorem d_Mo_isNew_47 : decode (yB Y_Mo_isNew) 47 = .ok (.iload_n 1, 1) := by decide +kernel
theorem d_Mo_isNew_48 : decode (yB Y_Mo_isNew) 48 = .ok (.iaload, 1) := by decide +kernel
theorem d_Mo_isNew_49 : decode (yB Y_Mo_isNew) 49 = .ok (.if_icmp .eq 7, 3) := by decide +kernel
theorem d_Mo_isNew_52 : decode (yB Y_Mo_isNew) 52 = .ok (.iconst 1, 1) := by decide +kernel
theorem d_Mo_isNew_53 : decode (yB Y_Mo_isNew) 53 = .ok (.goto 4, 3) := by decide +kernel
theorem d_Mo_isNew_56 : decode (yB Y_Mo_isNew) 56 = .ok (.iconst 0, 1) := by decide +kernel
theorem d_Mo_isNew_57 : decode (yB Y_Mo_isNew) 57 = .ok (.istore_n 2, 1) := by decide +kernel
theorem d_Mo_isNew_58 : decode (yB Y_Mo_isNew) 58 = .ok (.iinc 3 1, 3) := by decide +kernel
theorem d_Mo_isNew_61 : decode (yB Y_Mo_isNew) 61 = .ok (.goto (-33), 3) := by decide +kernel
theorem d_Mo_isNew_64 : decode (yB Y_Mo_isNew) 64 = .ok (.iload_n 2, 1) := by decide +kernel
theorem d_Mo_isNew_65 : decode (yB Y_Mo_isNew) 65 = .ok (.ireturn, 1) := by decide +kernel
def F_Mo_isNew_b57 (n : Nat) (E : zE) (S : zS) (r28 : Nat × Int32 × Int32 × Int32 × zH → Option (Bool × zH)) (a0 : Nat) (x1 : Int32) (x3 : Int32) (s0 : Int32) (M : zH) : Option (Bool × zH) :=
  r28 (a0, x1, s0, x3 + 1, M)
def F_Mo_isNew_b56 (n : Nat) (E : zE) (S : zS) (r28 : Nat × Int32 × Int32 × Int32 × zH → Option (Bool × zH)) (a0 : Nat) (x1 : Int32) (x3 : Int32) (M : zH) : Option (Bool × zH) :=
  F_Mo_isNew_b57 n E S r28 a0 x1 x3 0 M
def F_Mo_isNew_L28 (n : Nat) (E : zE) (S : zS) (r28 : Nat × Int32 × Int32 × Int32 × zH → Option (Bool × zH)) (a0 : Nat) (x1 : Int32) (x2 : Int32) (x3 : Int32) (M : zH) : Option (Bool × zH) :=
  if x1 ≤ x3 then
    (zbl x2).bind fun z2 =>
    some (z2, M)
  else
    if x2 = 0 then
      F_Mo_isNew_b56 n E S r28 a0 x1 x3 M
    else
      (zgR S a0 11 43).bind fun b4 =>
      (zldI S M b4 x3).bind fun v5 =>
      (zldI S M b4 x1).bind fun v6 =>
      if v5 = v6 then
        F_Mo_isNew_b56 n E S r28 a0 x1 x3 M
      else
        F_Mo_isNew_b57 n E S r28 a0 x1 x3 1 M
def F_Mo_isNew_b28 (n : Nat) (E : zE) (S : zS) : Nat × Int32 × Int32 × Int32 × zH → Option (Bool × zH) := zfix (fun r28 s => F_Mo_isNew_L28 n E S r28 s.1 s.2.1 s.2.2.1 s.2.2.2.1 s.2.2.2.2) n
def F_Mo_isNew_b25 (n : Nat) (E : zE) (S : zS) (a0 : Nat) (x1 : Int32) (s0 : Int32) (M : zH) : Option (Bool × zH) :=
  F_Mo_isNew_b28 n E S (a0, x1, s0, 0, M)
def F_Mo_isNew (n : Nat) (E : zE) (S : zS) (a0 : Nat) (x1 : Int32) (M : zH) : Option (Bool × zH) :=
  (zgR S a0 11 42).bind fun b8 =>
  (zgR S a0 11 43).bind fun b9 =>
  (zldI S M b9 x1).bind fun v10 =>
  (zldI S M b8 ((8 * x1) + v10)).bind fun v11 =>
  if v11 = (-1) then
    F_Mo_isNew_b25 n E S a0 x1 0 M
  else
    F_Mo_isNew_b25 n E S a0 x1 1 M
theorem K_Mo_isNew_b57 (n : Nat) (E : zE) (S : zS) (r28 : Nat × Int32 × Int32 × Int32 × zH → Option (Bool × zH)) (a0 : Nat) (x1 : Int32) (x3 : Int32) (s0 : Int32) (M : zH) (r : Bool) (M' : zH) (hr28 : ∀ (a0 : Nat) (x1 : Int32) (x2 : Int32) (x3 : Int32) (M : zH), r28 (a0, x1, x2, x3, M) = some (r, M') → zG E Y_Mo_isNew (some (.int (bI r)), S, M') 28 [(0, .ref a0), (1, .int x1), (2, .int x2), (3, .int x3)] [] S M 0 0) (h : F_Mo_isNew_b57 n E S r28 a0 x1 x3 s0 M = some (r, M')) : zG E Y_Mo_isNew (some (.int (bI r)), S, M') 57 [(0, .ref a0), (1, .int x1), (3, .int x3)] [.int s0] S M 0 0 := by
  unfold F_Mo_isNew_b57 at h
  refine zi_istore_n [(2, .int s0), (0, .ref a0), (1, .int x1), (3, .int x3)] d_Mo_isNew_57 (by decide) rfl ?_
  refine zi_iinc 3 (x3 + 1) [(3, .int (x3 + 1)), (2, .int s0), (0, .ref a0), (1, .int x1)] d_Mo_isNew_58 rfl rfl (by decide) rfl ?_
  refine zi_goto (tgt := 28) d_Mo_isNew_61 rfl ?_
  refine zi_lo [(0, .ref a0), (1, .int x1), (2, .int s0), (3, .int (x3 + 1))] [2, 3, 1, 0] rfl ?_
  exact hr28 a0 x1 s0 (x3 + 1) M h
theorem K_Mo_isNew_b56 (n : Nat) (E : zE) (S : zS) (r28 : Nat × Int32 × Int32 × Int32 × zH → Option (Bool × zH)) (a0 : Nat) (x1 : Int32) (x3 : Int32) (M : zH) (r : Bool) (M' : zH) (hr28 : ∀ (a0 : Nat) (x1 : Int32) (x2 : Int32) (x3 : Int32) (M : zH), r28 (a0, x1, x2, x3, M) = some (r, M') → zG E Y_Mo_isNew (some (.int (bI r)), S, M') 28 [(0, .ref a0), (1, .int x1), (2, .int x2), (3, .int x3)] [] S M 0 0) (h : F_Mo_isNew_b56 n E S r28 a0 x1 x3 M = some (r, M')) : zG E Y_Mo_isNew (some (.int (bI r)), S, M') 56 [(0, .ref a0), (1, .int x1), (3, .int x3)] [] S M 0 0 := by
  unfold F_Mo_isNew_b56 at h
  refine zi_iconst 0 d_Mo_isNew_56 rfl ?_
  refine zi_lo [(0, .ref a0), (1, .int x1), (3, .int x3)] [0, 1, 2] rfl ?_
  exact K_Mo_isNew_b57 n E S r28 a0 x1 x3 0 M r M' hr28 h
theorem K_Mo_isNew_L28 (n : Nat) (E : zE) (S : zS) (r28 : Nat × Int32 × Int32 × Int32 × zH → Option (Bool × zH)) (a0 : Nat) (x1 : Int32) (x2 : Int32) (x3 : Int32) (M : zH) (r : Bool) (M' : zH) (hr28 : ∀ (a0 : Nat) (x1 : Int32) (x2 : Int32) (x3 : Int32) (M : zH), r28 (a0, x1, x2, x3, M) = some (r, M') → zG E Y_Mo_isNew (some (.int (bI r)), S, M') 28 [(0, .ref a0), (1, .int x1), (2, .int x2), (3, .int x3)] [] S M 0 0) (h : F_Mo_isNew_L28 n E S r28 a0 x1 x2 x3 M = some (r, M')) : zG E Y_Mo_isNew (some (.int (bI r)), S, M') 28 [(0, .ref a0), (1, .int x1), (2, .int x2), (3, .int x3)] [] S M 0 0 := by
  unfold F_Mo_isNew_L28 at h
  refine zi_iload_n 3 d_Mo_isNew_28 rfl ?_
  refine zi_iload_n 1 d_Mo_isNew_29 rfl ?_
  refine zi_icmp_ge (tgt := 64) d_Mo_isNew_30 rfl (fun c1 => ?_) (fun c1 => ?_)
  · rw [if_pos c1] at h
    refine zi_iload_n 2 d_Mo_isNew_64 rfl ?_
    obtain ⟨z2, ez2, h⟩ := zbind h
    cases h
    exact zo_retB d_Mo_isNew_65 (Nat.le_of_ble_eq_true rfl) (Nat.le_of_ble_eq_true rfl) (zbl_s ez2)
  · rw [if_neg c1] at h
    refine zi_iload_n 2 d_Mo_isNew_33 rfl ?_
    refine zi_if_eq (tgt := 56) d_Mo_isNew_34 rfl (fun c3 => ?_) (fun c3 => ?_)
    · rw [if_pos c3] at h
      refine zi_lo [(0, .ref a0), (1, .int x1), (3, .int x3)] [0, 1, 3] rfl ?_
      exact K_Mo_isNew_b56 n E S r28 a0 x1 x3 M r M' hr28 h
    · rw [if_neg c3] at h
      refine zi_aload_n 0 d_Mo_isNew_37 rfl ?_
      obtain ⟨b4, eb4, h⟩ := zbind h
      refine zo_getR 41 zkd_11 43 d_Mo_isNew_38 eb4 rfl tw_1274 rfl ?_
      refine zi_iload_n 3 d_Mo_isNew_41 rfl ?_
      obtain ⟨v5, ev5, h⟩ := zbind h
      refine zo_iald 43 d_Mo_isNew_42 ev5 rfl ?_
      refine zi_aload_n 0 d_Mo_isNew_43 rfl ?_
      refine zo_getR 47 zkd_11 43 d_Mo_isNew_44 eb4 rfl tw_1274 rfl ?_
      refine zi_iload_n 1 d_Mo_isNew_47 rfl ?_
      obtain ⟨v6, ev6, h⟩ := zbind h
      refine zo_iald 49 d_Mo_isNew_48 ev6 rfl ?_
      refine zi_icmp_eq (tgt := 56) d_Mo_isNew_49 rfl (fun c7 => ?_) (fun c7 => ?_)
      · rw [if_pos c7] at h
        refine zi_lo [(0, .ref a0), (1, .int x1), (3, .int x3)] [0, 1, 3] rfl ?_
        exact K_Mo_isNew_b56 n E S r28 a0 x1 x3 M r M' hr28 h
      · rw [if_neg c7] at h
        refine zi_iconst 1 d_Mo_isNew_52 rfl ?_
        refine zi_goto (tgt := 57) d_Mo_isNew_53 rfl ?_
        refine zi_lo [(0, .ref a0), (1, .int x1), (3, .int x3)] [0, 1, 3] rfl ?_
        exact K_Mo_isNew_b57 n E S r28 a0 x1 x3 1 M r M' hr28 h
theorem K_Mo_isNew_b28 (n : Nat) (E : zE) (S : zS) (a0 : Nat) (x1 : Int32) (x2 : Int32) (x3 : Int32) (M : zH) (r : Bool) (M' : zH)  (h : F_Mo_isNew_b28 n E S (a0, x1, x2, x3, M) = some (r, M')) : zG E Y_Mo_isNew (some (.int (bI r)), S, M') 28 [(0, .ref a0), (1, .int x1), (2, .int x2), (3, .int x3)] [] S M 0 0 := by
  have key : ∀ (k : Nat) (a0 : Nat) (x1 : Int32) (x2 : Int32) (x3 : Int32) (M : zH), zfix (fun r28 s => F_Mo_isNew_L28 n E S r28 s.1 s.2.1 s.2.2.1 s.2.2.2.1 s.2.2.2.2) k (a0, x1, x2, x3, M) = some (r, M') → zG E Y_Mo_isNew (some (.int (bI r)), S, M') 28 [(0, .ref a0), (1, .int x1), (2, .int x2), (3, .int x3)] [] S M 0 0 := by
    intro k
    induction k with
    | zero => intro a0 x1 x2 x3 M h; cases h
    | succ k ih => intro a0 x1 x2 x3 M h; exact K_Mo_isNew_L28 n E S _ a0 x1 x2 x3 M r M'  (fun a0 x1 x2 x3 M h => ih a0 x1 x2 x3 M h) h
  exact key n a0 x1 x2 x3 M h
theorem K_Mo_isNew_b25 (n : Nat) (E : zE) (S : zS) (a0 : Nat) (x1 : Int32) (s0 : Int32) (M : zH) (r : Bool) (M' : zH)  (h : F_Mo_isNew_b25 n E S a0 x1 s0 M = some (r, M')) : zG E Y_Mo_isNew (some (.int (bI r)), S, M') 25 [(0, .ref a0), (1, .int x1)] [.int s0] S M 0 0 := by
  unfold F_Mo_isNew_b25 at h
  refine zi_istore_n [(2, .int s0), (0, .ref a0), (1, .int x1)] d_Mo_isNew_25 (by decide) rfl ?_
  refine zi_iconst 0 d_Mo_isNew_26 rfl ?_
  refine zi_istore_n [(3, .int 0), (2, .int s0), (0, .ref a0), (1, .int x1)] d_Mo_isNew_27 (by decide) rfl ?_
  refine zi_lo [(0, .ref a0), (1, .int x1), (2, .int s0), (3, .int 0)] [2, 3, 1, 0] rfl ?_
  exact K_Mo_isNew_b28 n E S a0 x1 s0 0 M r M'  h
theorem K_Mo_isNew (n : Nat) (E : zE) (S : zS) (a0 : Nat) (x1 : Int32) (M : zH) (r : Bool) (M' : zH)  (h : F_Mo_isNew n E S a0 x1 M = some (r, M')) : zG E Y_Mo_isNew (some (.int (bI r)), S, M') 0 [(0, .ref a0), (1, .int x1)] [] S M 0 0 := by
  unfold F_Mo_isNew at h
  refine zi_aload_n 0 d_Mo_isNew_0 rfl ?_
  obtain ⟨b8, eb8, h⟩ := zbind h
  refine zo_getR 4 zkd_11 42 d_Mo_isNew_1 eb8 rfl tw_1273 rfl ?_
  refine zi_bipush 8 d_Mo_isNew_4 rfl ?_
  refine zi_iload_n 1 d_Mo_isNew_6 rfl ?_
  refine zi_imul d_Mo_isNew_7 ?_
  refine zi_aload_n 0 d_Mo_isNew_8 rfl ?_
  obtain ⟨b9, eb9, h⟩ := zbind h
  refine zo_getR 12 zkd_11 43 d_Mo_isNew_9 eb9 rfl tw_1274 rfl ?_
  refine zi_iload_n 1 d_Mo_isNew_12 rfl ?_
  obtain ⟨v10, ev10, h⟩ := zbind h
  refine zo_iald 14 d_Mo_isNew_13 ev10 rfl ?_
  refine zi_iadd d_Mo_isNew_14 ?_
  obtain ⟨v11, ev11, h⟩ := zbind h
  refine zo_iald 16 d_Mo_isNew_15 ev11 rfl ?_
  refine zi_iconst (-1) d_Mo_isNew_16 rfl ?_
  refine zi_icmp_eq (tgt := 24) d_Mo_isNew_17 rfl (fun c12 => ?_) (fun c12 => ?_)
  · rw [if_pos c12] at h
    refine zi_iconst 0 d_Mo_isNew_24 rfl ?_
    refine zi_lo [(0, .ref a0), (1, .int x1)] [0, 1] rfl ?_
    exact K_Mo_isNew_b25 n E S a0 x1 0 M r M'  h
  · rw [if_neg c12] at h
    refine zi_iconst 1 d_Mo_isNew_20 rfl ?_
    refine zi_goto (tgt := 25) d_Mo_isNew_21 rfl ?_
    refine zi_lo [(0, .ref a0), (1, .int x1)] [0, 1] rfl ?_
    exact K_Mo_isNew_b25 n E S a0 x1 1 M r M'  h
theorem C_Mo_isNew (n : Nat) (E : zE) (S : zS) (a0 : Nat) (x1 : Int32) (M : zH) (r : Bool) (M' : zH) (h : F_Mo_isNew n E S a0 x1 M = some (r, M')) : zC E Y_Mo_isNew [.ref a0, .int x1] S M (some (.int (bI r)), S, M') :=
  zC.of (Or.inl (show plainName "NightColanderModel" = true by decide)) (Nat.le_of_ble_eq_true rfl) (bI_nar r) (K_Mo_isNew n E S a0 x1 M r M' h)
theorem d_Mo_findPlaced_0 : decode (yB Y_Mo_findPlaced) 0 = .ok (.aload_n 0, 1) := by decide +kernel
theorem d_Mo_findPlaced_1 : decode (yB Y_Mo_findPlaced) 1 = .ok (.getfield 13, 3) := by decide +kernel
theorem d_Mo_findPlaced_4 : decode (yB Y_Mo_findPlaced) 4 = .ok (.iconst 0, 1) := by decide +kernel
theorem d_Mo_findPlaced_5 : decode (yB Y_Mo_findPlaced) 5 = .ok (.iaload, 1) := by decide +kernel
theorem d_Mo_findPlaced_6 : decode (yB Y_Mo_findPlaced) 6 = .ok (.istore_n 1, 1) := by decide +kernel
theorem d_Mo_findPlaced_7 : decode (yB Y_Mo_findPlaced) 7 = .ok (.iconst (-1), 1) := by decide +kernel
theorem d_Mo_findPlaced_8 : decode (yB Y_Mo_findPlaced) 8 = .ok (.istore_n 2, 1) := by decide +kernel
theorem d_Mo_findPlaced_9 : decode (yB Y_Mo_findPlaced) 9 = .ok (.iconst 0, 1) := by decide +kernel
theorem d_Mo_findPlaced_10 : decode (yB Y_Mo_findPlaced) 10 = .ok (.istore_n 3, 1) := by decide +kernel
theorem d_Mo_findPlaced_11 : decode (yB Y_Mo_findPlaced) 11 = .ok (.aload_n 0, 1) := by decide +kernel
theorem d_Mo_findPlaced_12 : decode (yB Y_Mo_findPlaced) 12 = .ok (.getfield 118, 3) := by decide +kernel
theorem d_Mo_findPlaced_15 : decode (yB Y_Mo_findPlaced) 15 = .ok (.iconst 0, 1) := by decide +kernel
theorem d_Mo_findPlaced_16 : decode (yB Y_Mo_findPlaced) 16 = .ok (.iconst (-1), 1) := by decide +kernel
theorem d_Mo_findPlaced_17 : decode (yB Y_Mo_findPlaced) 17 = .ok (.iastore, 1) := by decide +kernel
theorem d_Mo_findPlaced_18 : decode (yB Y_Mo_findPlaced) 18 = .ok (.iload_n 3, 1) := by decide +kernel
theorem d_Mo_findPlaced_19 : decode (yB Y_Mo_findPlaced) 19 = .ok (.ifCond .lt 166, 3) := by decide +kernel
theorem d_Mo_findPlaced_22 : decode (yB Y_Mo_findPlaced) 22 = .ok (.aload_n 0, 1) := by decide +kernel
theorem d_Mo_findPlaced_23 : decode (yB Y_Mo_findPlaced) 23 = .ok (.getfield 118, 3) := by decide +kernel
theorem d_Mo_findPlaced_26 : decode (yB Y_Mo_findPlaced) 26 = .ok (.iload_n 3, 1) := by decide +kernel
theorem d_Mo_findPlaced_27 : decode (yB Y_Mo_findPlaced) 27 = .ok (.dup2, 1) := by decide +kernel
theorem d_Mo_findPlaced_28 : decode (yB Y_Mo_findPlaced) 28 = .ok (.iaload, 1) := by decide +kernel
theorem d_Mo_findPlaced_29 : decode (yB Y_Mo_findPlaced) 29 = .ok (.iconst 1, 1) := by decide +kernel
theorem d_Mo_findPlaced_30 : decode (yB Y_Mo_findPlaced) 30 = .ok (.iadd, 1) := by decide +kernel
theorem d_Mo_findPlaced_31 : decode (yB Y_Mo_findPlaced) 31 = .ok (.iastore, 1) := by decide +kernel
theorem d_Mo_findPlaced_32 : decode (yB Y_Mo_findPlaced) 32 = .ok (.iload_n 3, 1) := by decide +kernel
theorem d_Mo_findPlaced_33 : decode (yB Y_Mo_findPlaced) 33 = .ok (.iload_n 1, 1) := by decide +kernel
theorem d_Mo_findPlaced_34 : decode (yB Y_Mo_findPlaced) 34 = .ok (.if_icmp .eq 14, 3) := by decide +kernel
theorem d_Mo_findPlaced_37 : decode (yB Y_Mo_findPlaced) 37 = .ok (.aload_n 0, 1) := by decide +kernel
theorem d_Mo_findPlaced_38 : decode (yB Y_Mo_findPlaced) 38 = .ok (.getfield 118, 3) := by decide +kernel
theorem d_Mo_findPlaced_41 : decode (yB Y_Mo_findPlaced) 41 = .ok (.iload_n 3, 1) := by decide +kernel
theorem d_Mo_findPlaced_42 : decode (yB Y_Mo_findPlaced) 42 = .ok (.iaload, 1) := by decide +kernel
theorem d_Mo_findPlaced_43 : decode (yB Y_Mo_findPlaced) 43 = .ok (.bipush 8, 2) := by decide +kernel
theorem d_Mo_findPlaced_45 : decode (yB Y_Mo_findPlaced) 45 = .ok (.if_icmp .lt 119, 3) := by decide +kernel
theorem d_Mo_findPlaced_48 : decode (yB Y_Mo_findPlaced) 48 = .ok (.iconst 0, 1) := by decide +kernel
theorem d_Mo_findPlaced_49 : decode (yB Y_Mo_findPlaced) 49 = .ok (.istore 4, 2) := by decide +kernel
theorem d_Mo_findPlaced_51 : decode (yB Y_Mo_findPlaced) 51 = .ok (.iconst 0, 1) := by decide +kernel
theorem d_Mo_findPlaced_52 : decode (yB Y_Mo_findPlaced) 52 = .ok (.istore 5, 2) := by decide +kernel
theorem d_Mo_findPlaced_54 : decode (yB Y_Mo_findPlaced) 54 = .ok (.iload 5, 2) := by decide +kernel
theorem d_Mo_findPlaced_56 : decode (yB Y_Mo_findPlaced) 56 = .ok (.iload_n 1, 1) := by decide +kernel
theorem d_Mo_findPlaced_57 : decode (yB Y_Mo_findPlaced) 57 = .ok (.if_icmp .ge 37, 3) := by decide +kernel
theorem d_Mo_findPlaced_60 : decode (yB Y_Mo_findPlaced) 60 = .ok (.iload_n 3, 1) := by decide +kernel
theorem d_Mo_findPlaced_61 : decode (yB Y_Mo_findPlaced) 61 = .ok (.iload_n 1, 1) := by decide +kernel
theorem d_Mo_findPlaced_62 : decode (yB Y_Mo_findPlaced) 62 = .ok (.if_icmp .ne 32, 3) := by decide +kernel
theorem d_Mo_findPlaced_65 : decode (yB Y_Mo_findPlaced) 65 = .ok (.iload 4, 2) := by decide +kernel
theorem d_Mo_findPlaced_67 : decode (yB Y_Mo_findPlaced) 67 = .ok (.aload_n 0, 1) := by decide +kernel
theorem d_Mo_findPlaced_68 : decode (yB Y_Mo_findPlaced) 68 = .ok (.getfield 115, 3) := by decide +kernel
theorem d_Mo_findPlaced_71 : decode (yB Y_Mo_findPlaced) 71 = .ok (.bipush 8, 2) := by decide +kernel
theorem d_Mo_findPlaced_73 : decode (yB Y_Mo_findPlaced) 73 = .ok (.iload 5, 2) := by decide +kernel
theorem d_Mo_findPlaced_75 : decode (yB Y_Mo_findPlaced) 75 = .ok (.imul, 1) := by decide +kernel
theorem d_Mo_findPlaced_76 : decode (yB Y_Mo_findPlaced) 76 = .ok (.aload_n 0, 1) := by decide +kernel
theorem d_Mo_findPlaced_77 : decode (yB Y_Mo_findPlaced) 77 = .ok (.getfield 118, 3) := by decide +kernel
theorem d_Mo_findPlaced_80 : decode (yB Y_Mo_findPlaced) 80 = .ok (.iload 5, 2) := by decide +kernel
theorem d_Mo_findPlaced_82 : decode (yB Y_Mo_findPlaced) 82 = .ok (.iaload, 1) := by decide +kernel
theorem d_Mo_findPlaced_83 : decode (yB Y_Mo_findPlaced) 83 = .ok (.iadd, 1) := by decide +kernel
theorem d_Mo_findPlaced_84 : decode (yB Y_Mo_findPlaced) 84 = .ok (.iaload, 1) := by decide +kernel
theorem d_Mo_findPlaced_85 : decode (yB Y_Mo_findPlaced) 85 = .ok (.iadd, 1) := by decide +kernel
theorem d_Mo_findPlaced_86 : decode (yB Y_Mo_findPlaced) 86 = .ok (.istore 4, 2) := by decide +kernel
theorem d_Mo_findPlaced_88 : decode (yB Y_Mo_findPlaced) 88 = .ok (.iinc 5 1, 3) := by decide +kernel
theorem d_Mo_findPlaced_91 : decode (yB Y_Mo_findPlaced) 91 = .ok (.goto (-37), 3) := by decide +kernel
theorem d_Mo_findPlaced_94 : decode (yB Y_Mo_findPlaced) 94 = .ok (.iload_n 3, 1) := by decide +kernel
theorem d_Mo_findPlaced_95 : decode (yB Y_Mo_findPlaced) 95 = .ok (.iload_n 1, 1) := by decide +kernel
theorem d_Mo_findPlaced_96 : decode (yB Y_Mo_findPlaced) 96 = .ok (.if_icmp .ne 13, 3) := by decide +kernel
theorem d_Mo_findPlaced_99 : decode (yB Y_Mo_findPlaced) 99 = .ok (.iload 4, 2) := by decide +kernel
theorem d_Mo_findPlaced_101 : decode (yB Y_Mo_findPlaced) 101 = .ok (.iload_n 2, 1) := by decide +kernel
theorem d_Mo_findPlaced_102 : decode (yB Y_Mo_findPlaced) 102 = .ok (.if_icmp .le 7, 3) := by decide +kernel
theorem d_Mo_findPlaced_105 : decode (yB Y_Mo_findPlaced) 105 = .ok (.iconst 1, 1) := by decide +kernel
theorem d_Mo_findPlaced_106 : decode (yB Y_Mo_findPlaced) 106 = .ok (.goto 4, 3) := by decide +kernel
theorem d_Mo_findPlaced_109 : decode (yB Y_Mo_findPlaced) 109 = .ok (.iconst 0, 1) := by decide +kernel
theorem d_Mo_findPlaced_110 : decode (yB Y_Mo_findPlaced) 110 = .ok (.istore 5, 2) := by decide +kernel
theorem d_Mo_findPlaced_112 : decode (yB Y_Mo_findPlaced) 112 = .ok (.iconst 0, 1) := by decide +kernel
theorem d_Mo_findPlaced_113 : decode (yB Y_Mo_findPlaced) 113 = .ok (.istore 6, 2) := by decide +kernel
theorem d_Mo_findPlaced_115 : decode (yB Y_Mo_findPlaced) 115 = .ok (.iload 6, 2) := by decide +kernel
theorem d_Mo_findPlaced_117 : decode (yB Y_Mo_findPlaced) 117 = .ok (.iload_n 1, 1) := by decide +kernel
theorem d_Mo_findPlaced_118 : decode (yB Y_Mo_findPlaced) 118 = .ok (.if_icmp .ge 28, 3) := by decide +kernel
theorem d_Mo_findPlaced_121 : decode (yB Y_Mo_findPlaced) 121 = .ok (.iload 5, 2) := by decide +kernel
theorem d_Mo_findPlaced_123 : decode (yB Y_Mo_findPlaced) 123 = .ok (.ifCond .eq 23, 3) := by decide +kernel
theorem d_Mo_findPlaced_126 : decode (yB Y_Mo_findPlaced) 126 = .ok (.aload_n 0, 1) := by decide +kernel
theorem d_Mo_findPlaced_127 : decode (yB Y_Mo_findPlaced) 127 = .ok (.getfield 121, 3) := by decide +kernel
theorem d_Mo_findPlaced_130 : decode (yB Y_Mo_findPlaced) 130 = .ok (.iload 6, 2) := by decide +kernel
theorem d_Mo_findPlaced_132 : decode (yB Y_Mo_findPlaced) 132 = .ok (.aload_n 0, 1) := by decide +kernel
theorem d_Mo_findPlaced_133 : decode (yB Y_Mo_findPlaced) 133 = .ok (.getfield 118, 3) := by decide +kernel
theorem d_Mo_findPlaced_136 : decode (yB Y_Mo_findPlaced) 136 = .ok (.iload 6, 2) := by decide +kernel
theorem d_Mo_findPlaced_138 : decode (yB Y_Mo_findPlaced) 138 = .ok (.iaload, 1) := by decide +kernel
theorem d_Mo_findPlaced_139 : decode (yB Y_Mo_findPlaced) 139 = .ok (.iastore, 1) := by decide +kernel
theorem d_Mo_findPlaced_140 : decode (yB Y_Mo_findPlaced) 140 = .ok (.iinc 6 1, 3) := by decide +kernel
theorem d_Mo_findPlaced_143 : decode (yB Y_Mo_findPlaced) 143 = .ok (.goto (-28), 3) := by decide +kernel
theorem d_Mo_findPlaced_146 : decode (yB Y_Mo_findPlaced) 146 = .ok (.iload 5, 2) := by decide +kernel
theorem d_Mo_findPlaced_148 : decode (yB Y_Mo_findPlaced) 148 = .ok (.ifCond .eq 8, 3) := by decide +kernel
theorem d_Mo_findPlaced_151 : decode (yB Y_Mo_findPlaced) 151 = .ok (.iload 4, 2) := by decide +kernel
theorem d_Mo_findPlaced_153 : decode (yB Y_Mo_findPlaced) 153 = .ok (.goto 4, 3) := by decide +kernel
theorem d_Mo_findPlaced_156 : decode (yB Y_Mo_findPlaced) 156 = .ok (.iload_n 2, 1) := by decide +kernel
theorem d_Mo_findPlaced_157 : decode (yB Y_Mo_findPlaced) 157 = .ok (.istore_n 2, 1) := by decide +kernel
theorem d_Mo_findPlaced_158 : decode (yB Y_Mo_findPlaced) 158 = .ok (.iinc 3 (-1), 3) := by decide +kernel
theorem d_Mo_findPlaced_161 : decode (yB Y_Mo_findPlaced) 161 = .ok (.goto (-143), 3) := by decide +kernel
theorem d_Mo_findPlaced_164 : decode (yB Y_Mo_findPlaced) 164 = .ok (.aload_n 0, 1) := by decide +kernel
theorem d_Mo_findPlaced_165 : decode (yB Y_Mo_findPlaced) 165 = .ok (.iload_n 3, 1) := by decide +kernel
theorem d_Mo_findPlaced_166 : decode (yB Y_Mo_findPlaced) 166 = .ok (.invokevirtual 472, 3) := by decide +kernel
theorem d_Mo_findPlaced_169 : decode (yB Y_Mo_findPlaced) 169 = .ok (.ifCond .eq (-151), 3) := by decide +kernel
theorem d_Mo_findPlaced_172 : decode (yB Y_Mo_findPlaced) 172 = .ok (.iinc 3 1, 3) := by decide +kernel
theorem d_Mo_findPlaced_175 : decode (yB Y_Mo_findPlaced) 175 = .ok (.aload_n 0, 1) := by decide +kernel
theorem d_Mo_findPlaced_176 : decode (yB Y_Mo_findPlaced) 176 = .ok (.getfield 118, 3) := by decide +kernel
theorem d_Mo_findPlaced_179 : decode (yB Y_Mo_findPlaced) 179 = .ok (.iload_n 3, 1) := by decide +kernel
theorem d_Mo_findPlaced_180 : decode (yB Y_Mo_findPlaced) 180 = .ok (.iconst (-1), 1) := by decide +kernel
theorem d_Mo_findPlaced_181 : decode (yB Y_Mo_findPlaced) 181 = .ok (.iastore, 1) := by decide +kernel
theorem d_Mo_findPlaced_182 : decode (yB Y_Mo_findPlaced) 182 = .ok (.goto (-164), 3) := by decide +kernel
theorem d_Mo_findPlaced_185 : decode (yB Y_Mo_findPlaced) 185 = .ok (.iload_n 2, 1) := by decide +kernel
theorem d_Mo_findPlaced_186 : decode (yB Y_Mo_findPlaced) 186 = .ok (.ireturn, 1) := by decide +kernel
def F_Mo_findPlaced_b157 (n : Nat) (E : zE) (S : zS) (r18 : Nat × Int32 × Int32 × Int32 × zH → Option (Int32 × zH)) (a0 : Nat) (x1 : Int32) (x3 : Int32) (s0 : Int32) (M : zH) : Option (Int32 × zH) :=
  r18 (a0, x1, s0, x3 + (-1), M)
def F_Mo_findPlaced_b146 (n : Nat) (E : zE) (S : zS) (r18 : Nat × Int32 × Int32 × Int32 × zH → Option (Int32 × zH)) (a0 : Nat) (x1 : Int32) (x2 : Int32) (x3 : Int32) (x4 : Int32) (x5 : Int32) (M : zH) : Option (Int32 × zH) :=
  if x5 = 0 then
    F_Mo_findPlaced_b157 n E S r18 a0 x1 x3 x2 M
  else
    F_Mo_findPlaced_b157 n E S r18 a0 x1 x3 x4 M
def F_Mo_findPlaced_L115 (n : Nat) (E : zE) (S : zS) (r18 : Nat × Int32 × Int32 × Int32 × zH → Option (Int32 × zH)) (r115 : Nat × Int32 × Int32 × Int32 × Int32 × Int32 × Int32 × zH → Option (Int32 × zH)) (a0 : Nat) (x1 : Int32) (x2 : Int32) (x3 : Int32) (x4 : Int32) (x5 : Int32) (x6 : Int32) (M : zH) : Option (Int32 × zH) :=
  if x1 ≤ x6 then
    F_Mo_findPlaced_b146 n E S r18 a0 x1 x2 x3 x4 x5 M
  else
    if x5 = 0 then
      F_Mo_findPlaced_b146 n E S r18 a0 x1 x2 x3 x4 x5 M
    else
      (zgR S a0 11 44).bind fun b4 =>
      (zgR S a0 11 43).bind fun b5 =>
      (zldI S M b5 x6).bind fun v6 =>
      (zstI S M b4 x6 v6).bind fun m7 =>
      r115 (a0, x1, x2, x3, x4, x5, x6 + 1, m7)
def F_Mo_findPlaced_b115 (n : Nat) (E : zE) (S : zS) (r18 : Nat × Int32 × Int32 × Int32 × zH → Option (Int32 × zH)) : Nat × Int32 × Int32 × Int32 × Int32 × Int32 × Int32 × zH → Option (Int32 × zH) := zfix (fun r115 s => F_Mo_findPlaced_L115 n E S r18 r115 s.1 s.2.1 s.2.2.1 s.2.2.2.1 s.2.2.2.2.1 s.2.2.2.2.2.1 s.2.2.2.2.2.2.1 s.2.2.2.2.2.2.2) n
def F_Mo_findPlaced_b110 (n : Nat) (E : zE) (S : zS) (r18 : Nat × Int32 × Int32 × Int32 × zH → Option (Int32 × zH)) (a0 : Nat) (x1 : Int32) (x2 : Int32) (x3 : Int32) (x4 : Int32) (s0 : Int32) (M : zH) : Option (Int32 × zH) :=
  F_Mo_findPlaced_b115 n E S r18 (a0, x1, x2, x3, x4, s0, 0, M)
def F_Mo_findPlaced_b109 (n : Nat) (E : zE) (S : zS) (r18 : Nat × Int32 × Int32 × Int32 × zH → Option (Int32 × zH)) (a0 : Nat) (x1 : Int32) (x2 : Int32) (x3 : Int32) (x4 : Int32) (M : zH) : Option (Int32 × zH) :=
  F_Mo_findPlaced_b110 n E S r18 a0 x1 x2 x3 x4 0 M
def F_Mo_findPlaced_b94 (n : Nat) (E : zE) (S : zS) (r18 : Nat × Int32 × Int32 × Int32 × zH → Option (Int32 × zH)) (a0 : Nat) (x1 : Int32) (x2 : Int32) (x3 : Int32) (x4 : Int32) (M : zH) : Option (Int32 × zH) :=
  if x3 = x1 then
    if x4 ≤ x2 then
      F_Mo_findPlaced_b109 n E S r18 a0 x1 x2 x3 x4 M
    else
      F_Mo_findPlaced_b110 n E S r18 a0 x1 x2 x3 x4 1 M
  else
    F_Mo_findPlaced_b109 n E S r18 a0 x1 x2 x3 x4 M
def F_Mo_findPlaced_L54 (n : Nat) (E : zE) (S : zS) (r18 : Nat × Int32 × Int32 × Int32 × zH → Option (Int32 × zH)) (r54 : Nat × Int32 × Int32 × Int32 × Int32 × Int32 × zH → Option (Int32 × zH)) (a0 : Nat) (x1 : Int32) (x2 : Int32) (x3 : Int32) (x4 : Int32) (x5 : Int32) (M : zH) : Option (Int32 × zH) :=
  if x1 ≤ x5 then
    F_Mo_findPlaced_b94 n E S r18 a0 x1 x2 x3 x4 M
  else
    if x3 = x1 then
      (zgR S a0 11 42).bind fun b12 =>
      (zgR S a0 11 43).bind fun b13 =>
      (zldI S M b13 x5).bind fun v14 =>
      (zldI S M b12 ((8 * x5) + v14)).bind fun v15 =>
      r54 (a0, x1, x2, x3, x4 + v15, x5 + 1, M)
    else
      F_Mo_findPlaced_b94 n E S r18 a0 x1 x2 x3 x4 M
def F_Mo_findPlaced_b54 (n : Nat) (E : zE) (S : zS) (r18 : Nat × Int32 × Int32 × Int32 × zH → Option (Int32 × zH)) : Nat × Int32 × Int32 × Int32 × Int32 × Int32 × zH → Option (Int32 × zH) := zfix (fun r54 s => F_Mo_findPlaced_L54 n E S r18 r54 s.1 s.2.1 s.2.2.1 s.2.2.2.1 s.2.2.2.2.1 s.2.2.2.2.2.1 s.2.2.2.2.2.2) n
def F_Mo_findPlaced_b48 (n : Nat) (E : zE) (S : zS) (r18 : Nat × Int32 × Int32 × Int32 × zH → Option (Int32 × zH)) (a0 : Nat) (x1 : Int32) (x2 : Int32) (x3 : Int32) (M : zH) : Option (Int32 × zH) :=
  F_Mo_findPlaced_b54 n E S r18 (a0, x1, x2, x3, 0, 0, M)
def F_Mo_findPlaced_L18 (n : Nat) (E : zE) (S : zS) (r18 : Nat × Int32 × Int32 × Int32 × zH → Option (Int32 × zH)) (a0 : Nat) (x1 : Int32) (x2 : Int32) (x3 : Int32) (M : zH) : Option (Int32 × zH) :=
  if x3 < 0 then
    some (x2, M)
  else
    (zgR S a0 11 43).bind fun b17 =>
    (zldI S M b17 x3).bind fun v18 =>
    (zstI S M b17 x3 (v18 + 1)).bind fun m19 =>
    if x3 = x1 then
      F_Mo_findPlaced_b48 n E S r18 a0 x1 x2 x3 m19
    else
      (zldI S m19 b17 x3).bind fun v21 =>
      if v21 < 8 then
        (F_Mo_isNew n E S a0 x3 m19).bind fun q23 =>
        if q23.1 = true then
          (zstI S q23.2 b17 (x3 + 1) (-1)).bind fun m25 =>
          r18 (a0, x1, x2, x3 + 1, m25)
        else
          r18 (a0, x1, x2, x3, q23.2)
      else
        F_Mo_findPlaced_b48 n E S r18 a0 x1 x2 x3 m19
def F_Mo_findPlaced_b18 (n : Nat) (E : zE) (S : zS) : Nat × Int32 × Int32 × Int32 × zH → Option (Int32 × zH) := zfix (fun r18 s => F_Mo_findPlaced_L18 n E S r18 s.1 s.2.1 s.2.2.1 s.2.2.2.1 s.2.2.2.2) n
def F_Mo_findPlaced (n : Nat) (E : zE) (S : zS) (a0 : Nat) (M : zH) : Option (Int32 × zH) :=
  (zgR S a0 11 3).bind fun b26 =>
  (zldI S M b26 0).bind fun v27 =>
  (zgR S a0 11 43).bind fun b28 =>
  (zstI S M b28 0 (-1)).bind fun m29 =>
  F_Mo_findPlaced_b18 n E S (a0, v27, (-1), 0, m29)
theorem K_Mo_findPlaced_b157 (n : Nat) (E : zE) (S : zS) (r18 : Nat × Int32 × Int32 × Int32 × zH → Option (Int32 × zH)) (a0 : Nat) (x1 : Int32) (x3 : Int32) (s0 : Int32) (M : zH) (r : Int32) (M' : zH) (hr18 : ∀ (a0 : Nat) (x1 : Int32) (x2 : Int32) (x3 : Int32) (M : zH), r18 (a0, x1, x2, x3, M) = some (r, M') → zG E Y_Mo_findPlaced (some (.int r), S, M') 18 [(0, .ref a0), (1, .int x1), (2, .int x2), (3, .int x3)] [] S M 0 0) (h : F_Mo_findPlaced_b157 n E S r18 a0 x1 x3 s0 M = some (r, M')) : zG E Y_Mo_findPlaced (some (.int r), S, M') 157 [(0, .ref a0), (1, .int x1), (3, .int x3)] [.int s0] S M 0 0 := by
  unfold F_Mo_findPlaced_b157 at h
  refine zi_istore_n [(2, .int s0), (0, .ref a0), (1, .int x1), (3, .int x3)] d_Mo_findPlaced_157 (by decide) rfl ?_
  refine zi_iinc 3 (x3 + (-1)) [(3, .int (x3 + (-1))), (2, .int s0), (0, .ref a0), (1, .int x1)] d_Mo_findPlaced_158 rfl rfl (by decide) rfl ?_
  refine zi_goto (tgt := 18) d_Mo_findPlaced_161 rfl ?_
  refine zi_lo [(0, .ref a0), (1, .int x1), (2, .int s0), (3, .int (x3 + (-1)))] [2, 3, 1, 0] rfl ?_
  exact hr18 a0 x1 s0 (x3 + (-1)) M h
theorem K_Mo_findPlaced_b146 (n : Nat) (E : zE) (S : zS) (r18 : Nat × Int32 × Int32 × Int32 × zH → Option (Int32 × zH)) (a0 : Nat) (x1 : Int32) (x2 : Int32) (x3 : Int32) (x4 : Int32) (x5 : Int32) (M : zH) (r : Int32) (M' : zH) (hr18 : ∀ (a0 : Nat) (x1 : Int32) (x2 : Int32) (x3 : Int32) (M : zH), r18 (a0, x1, x2, x3, M) = some (r, M') → zG E Y_Mo_findPlaced (some (.int r), S, M') 18 [(0, .ref a0), (1, .int x1), (2, .int x2), (3, .int x3)] [] S M 0 0) (h : F_Mo_findPlaced_b146 n E S r18 a0 x1 x2 x3 x4 x5 M = some (r, M')) : zG E Y_Mo_findPlaced (some (.int r), S, M') 146 [(0, .ref a0), (1, .int x1), (2, .int x2), (3, .int x3), (4, .int x4), (5, .int x5)] [] S M 0 0 := by
  unfold F_Mo_findPlaced_b146 at h
  refine zi_iload 5 d_Mo_findPlaced_146 rfl ?_
  refine zi_if_eq (tgt := 156) d_Mo_findPlaced_148 rfl (fun c1 => ?_) (fun c1 => ?_)
  · rw [if_pos c1] at h
    refine zi_iload_n 2 d_Mo_findPlaced_156 rfl ?_
    refine zi_lo [(0, .ref a0), (1, .int x1), (3, .int x3)] [0, 1, 3] rfl ?_
    exact K_Mo_findPlaced_b157 n E S r18 a0 x1 x3 x2 M r M' hr18 h
  · rw [if_neg c1] at h
    refine zi_iload 4 d_Mo_findPlaced_151 rfl ?_
    refine zi_goto (tgt := 157) d_Mo_findPlaced_153 rfl ?_
    refine zi_lo [(0, .ref a0), (1, .int x1), (3, .int x3)] [0, 1, 3] rfl ?_
    exact K_Mo_findPlaced_b157 n E S r18 a0 x1 x3 x4 M r M' hr18 h
theorem K_Mo_findPlaced_L115 (n : Nat) (E : zE) (S : zS) (r18 : Nat × Int32 × Int32 × Int32 × zH → Option (Int32 × zH)) (r115 : Nat × Int32 × Int32 × Int32 × Int32 × Int32 × Int32 × zH → Option (Int32 × zH)) (a0 : Nat) (x1 : Int32) (x2 : Int32) (x3 : Int32) (x4 : Int32) (x5 : Int32) (x6 : Int32) (M : zH) (r : Int32) (M' : zH) (hr18 : ∀ (a0 : Nat) (x1 : Int32) (x2 : Int32) (x3 : Int32) (M : zH), r18 (a0, x1, x2, x3, M) = some (r, M') → zG E Y_Mo_findPlaced (some (.int r), S, M') 18 [(0, .ref a0), (1, .int x1), (2, .int x2), (3, .int x3)] [] S M 0 0) (hr115 : ∀ (a0 : Nat) (x1 : Int32) (x2 : Int32) (x3 : Int32) (x4 : Int32) (x5 : Int32) (x6 : Int32) (M : zH), r115 (a0, x1, x2, x3, x4, x5, x6, M) = some (r, M') → zG E Y_Mo_findPlaced (some (.int r), S, M') 115 [(0, .ref a0), (1, .int x1), (2, .int x2), (3, .int x3), (4, .int x4), (5, .int x5), (6, .int x6)] [] S M 0 0) (h : F_Mo_findPlaced_L115 n E S r18 r115 a0 x1 x2 x3 x4 x5 x6 M = some (r, M')) : zG E Y_Mo_findPlaced (some (.int r), S, M') 115 [(0, .ref a0), (1, .int x1), (2, .int x2), (3, .int x3), (4, .int x4), (5, .int x5), (6, .int x6)] [] S M 0 0 := by
  unfold F_Mo_findPlaced_L115 at h
  refine zi_iload 6 d_Mo_findPlaced_115 rfl ?_
  refine zi_iload_n 1 d_Mo_findPlaced_117 rfl ?_
  refine zi_icmp_ge (tgt := 146) d_Mo_findPlaced_118 rfl (fun c2 => ?_) (fun c2 => ?_)
  · rw [if_pos c2] at h
    refine zi_lo [(0, .ref a0), (1, .int x1), (2, .int x2), (3, .int x3), (4, .int x4), (5, .int x5)] [0, 1, 2, 3, 4, 5] rfl ?_
    exact K_Mo_findPlaced_b146 n E S r18 a0 x1 x2 x3 x4 x5 M r M' hr18 h
  · rw [if_neg c2] at h
    refine zi_iload 5 d_Mo_findPlaced_121 rfl ?_
    refine zi_if_eq (tgt := 146) d_Mo_findPlaced_123 rfl (fun c3 => ?_) (fun c3 => ?_)
    · rw [if_pos c3] at h
      refine zi_lo [(0, .ref a0), (1, .int x1), (2, .int x2), (3, .int x3), (4, .int x4), (5, .int x5)] [0, 1, 2, 3, 4, 5] rfl ?_
      exact K_Mo_findPlaced_b146 n E S r18 a0 x1 x2 x3 x4 x5 M r M' hr18 h
    · rw [if_neg c3] at h
      refine zi_aload_n 0 d_Mo_findPlaced_126 rfl ?_
      obtain ⟨b4, eb4, h⟩ := zbind h
      refine zo_getR 130 zkd_11 44 d_Mo_findPlaced_127 eb4 rfl tw_1275 rfl ?_
      refine zi_iload 6 d_Mo_findPlaced_130 rfl ?_
      refine zi_aload_n 0 d_Mo_findPlaced_132 rfl ?_
      obtain ⟨b5, eb5, h⟩ := zbind h
      refine zo_getR 136 zkd_11 43 d_Mo_findPlaced_133 eb5 rfl tw_1274 rfl ?_
      refine zi_iload 6 d_Mo_findPlaced_136 rfl ?_
      obtain ⟨v6, ev6, h⟩ := zbind h
      refine zo_iald 139 d_Mo_findPlaced_138 ev6 rfl ?_
      obtain ⟨m7, em7, h⟩ := zbind h
      refine zo_iast 140 d_Mo_findPlaced_139 em7 rfl ?_
      refine zi_iinc 6 (x6 + 1) [(6, .int (x6 + 1)), (0, .ref a0), (1, .int x1), (2, .int x2), (3, .int x3), (4, .int x4), (5, .int x5)] d_Mo_findPlaced_140 rfl rfl (by decide) rfl ?_
      refine zi_goto (tgt := 115) d_Mo_findPlaced_143 rfl ?_
      refine zi_lo [(0, .ref a0), (1, .int x1), (2, .int x2), (3, .int x3), (4, .int x4), (5, .int x5), (6, .int (x6 + 1))] [1, 2, 3, 4, 5, 6, 0] rfl ?_
      exact hr115 a0 x1 x2 x3 x4 x5 (x6 + 1) m7 h
theorem K_Mo_findPlaced_b115 (n : Nat) (E : zE) (S : zS) (r18 : Nat × Int32 × Int32 × Int32 × zH → Option (Int32 × zH)) (a0 : Nat) (x1 : Int32) (x2 : Int32) (x3 : Int32) (x4 : Int32) (x5 : Int32) (x6 : Int32) (M : zH) (r : Int32) (M' : zH) (hr18 : ∀ (a0 : Nat) (x1 : Int32) (x2 : Int32) (x3 : Int32) (M : zH), r18 (a0, x1, x2, x3, M) = some (r, M') → zG E Y_Mo_findPlaced (some (.int r), S, M') 18 [(0, .ref a0), (1, .int x1), (2, .int x2), (3, .int x3)] [] S M 0 0) (h : F_Mo_findPlaced_b115 n E S r18 (a0, x1, x2, x3, x4, x5, x6, M) = some (r, M')) : zG E Y_Mo_findPlaced (some (.int r), S, M') 115 [(0, .ref a0), (1, .int x1), (2, .int x2), (3, .int x3), (4, .int x4), (5, .int x5), (6, .int x6)] [] S M 0 0 := by
  have key : ∀ (k : Nat) (a0 : Nat) (x1 : Int32) (x2 : Int32) (x3 : Int32) (x4 : Int32) (x5 : Int32) (x6 : Int32) (M : zH), zfix (fun r115 s => F_Mo_findPlaced_L115 n E S r18 r115 s.1 s.2.1 s.2.2.1 s.2.2.2.1 s.2.2.2.2.1 s.2.2.2.2.2.1 s.2.2.2.2.2.2.1 s.2.2.2.2.2.2.2) k (a0, x1, x2, x3, x4, x5, x6, M) = some (r, M') → zG E Y_Mo_findPlaced (some (.int r), S, M') 115 [(0, .ref a0), (1, .int x1), (2, .int x2), (3, .int x3), (4, .int x4), (5, .int x5), (6, .int x6)] [] S M 0 0 := by
    intro k
    induction k with
    | zero => intro a0 x1 x2 x3 x4 x5 x6 M h; cases h
    | succ k ih => intro a0 x1 x2 x3 x4 x5 x6 M h; exact K_Mo_findPlaced_L115 n E S r18 _ a0 x1 x2 x3 x4 x5 x6 M r M' hr18 (fun a0 x1 x2 x3 x4 x5 x6 M h => ih a0 x1 x2 x3 x4 x5 x6 M h) h
  exact key n a0 x1 x2 x3 x4 x5 x6 M h
theorem K_Mo_findPlaced_b110 (n : Nat) (E : zE) (S : zS) (r18 : Nat × Int32 × Int32 × Int32 × zH → Option (Int32 × zH)) (a0 : Nat) (x1 : Int32) (x2 : Int32) (x3 : Int32) (x4 : Int32) (s0 : Int32) (M : zH) (r : Int32) (M' : zH) (hr18 : ∀ (a0 : Nat) (x1 : Int32) (x2 : Int32) (x3 : Int32) (M : zH), r18 (a0, x1, x2, x3, M) = some (r, M') → zG E Y_Mo_findPlaced (some (.int r), S, M') 18 [(0, .ref a0), (1, .int x1), (2, .int x2), (3, .int x3)] [] S M 0 0) (h : F_Mo_findPlaced_b110 n E S r18 a0 x1 x2 x3 x4 s0 M = some (r, M')) : zG E Y_Mo_findPlaced (some (.int r), S, M') 110 [(0, .ref a0), (1, .int x1), (2, .int x2), (3, .int x3), (4, .int x4)] [.int s0] S M 0 0 := by
  unfold F_Mo_findPlaced_b110 at h
  refine zi_istore [(5, .int s0), (0, .ref a0), (1, .int x1), (2, .int x2), (3, .int x3), (4, .int x4)] d_Mo_findPlaced_110 (by decide) rfl ?_
  refine zi_iconst 0 d_Mo_findPlaced_112 rfl ?_
  refine zi_istore [(6, .int 0), (5, .int s0), (0, .ref a0), (1, .int x1), (2, .int x2), (3, .int x3), (4, .int x4)] d_Mo_findPlaced_113 (by decide) rfl ?_
  refine zi_lo [(0, .ref a0), (1, .int x1), (2, .int x2), (3, .int x3), (4, .int x4), (5, .int s0), (6, .int 0)] [2, 3, 4, 5, 6, 1, 0] rfl ?_
  exact K_Mo_findPlaced_b115 n E S r18 a0 x1 x2 x3 x4 s0 0 M r M' hr18 h
theorem K_Mo_findPlaced_b109 (n : Nat) (E : zE) (S : zS) (r18 : Nat × Int32 × Int32 × Int32 × zH → Option (Int32 × zH)) (a0 : Nat) (x1 : Int32) (x2 : Int32) (x3 : Int32) (x4 : Int32) (M : zH) (r : Int32) (M' : zH) (hr18 : ∀ (a0 : Nat) (x1 : Int32) (x2 : Int32) (x3 : Int32) (M : zH), r18 (a0, x1, x2, x3, M) = some (r, M') → zG E Y_Mo_findPlaced (some (.int r), S, M') 18 [(0, .ref a0), (1, .int x1), (2, .int x2), (3, .int x3)] [] S M 0 0) (h : F_Mo_findPlaced_b109 n E S r18 a0 x1 x2 x3 x4 M = some (r, M')) : zG E Y_Mo_findPlaced (some (.int r), S, M') 109 [(0, .ref a0), (1, .int x1), (2, .int x2), (3, .int x3), (4, .int x4)] [] S M 0 0 := by
  unfold F_Mo_findPlaced_b109 at h
  refine zi_iconst 0 d_Mo_findPlaced_109 rfl ?_
  refine zi_lo [(0, .ref a0), (1, .int x1), (2, .int x2), (3, .int x3), (4, .int x4)] [0, 1, 2, 3, 4] rfl ?_
  exact K_Mo_findPlaced_b110 n E S r18 a0 x1 x2 x3 x4 0 M r M' hr18 h
theorem K_Mo_findPlaced_b94 (n : Nat) (E : zE) (S : zS) (r18 : Nat × Int32 × Int32 × Int32 × zH → Option (Int32 × zH)) (a0 : Nat) (x1 : Int32) (x2 : Int32) (x3 : Int32) (x4 : Int32) (M : zH) (r : Int32) (M' : zH) (hr18 : ∀ (a0 : Nat) (x1 : Int32) (x2 : Int32) (x3 : Int32) (M : zH), r18 (a0, x1, x2, x3, M) = some (r, M') → zG E Y_Mo_findPlaced (some (.int r), S, M') 18 [(0, .ref a0), (1, .int x1), (2, .int x2), (3, .int x3)] [] S M 0 0) (h : F_Mo_findPlaced_b94 n E S r18 a0 x1 x2 x3 x4 M = some (r, M')) : zG E Y_Mo_findPlaced (some (.int r), S, M') 94 [(0, .ref a0), (1, .int x1), (2, .int x2), (3, .int x3), (4, .int x4)] [] S M 0 0 := by
  unfold F_Mo_findPlaced_b94 at h
  refine zi_iload_n 3 d_Mo_findPlaced_94 rfl ?_
  refine zi_iload_n 1 d_Mo_findPlaced_95 rfl ?_
  refine zi_icmp_ne (tgt := 109) d_Mo_findPlaced_96 rfl (fun c8 => ?_) (fun c8 => ?_)
  · rw [if_neg c8] at h
    refine zi_lo [(0, .ref a0), (1, .int x1), (2, .int x2), (3, .int x3), (4, .int x4)] [0, 1, 2, 3, 4] rfl ?_
    exact K_Mo_findPlaced_b109 n E S r18 a0 x1 x2 x3 x4 M r M' hr18 h
  · rw [if_pos c8] at h
    refine zi_iload 4 d_Mo_findPlaced_99 rfl ?_
    refine zi_iload_n 2 d_Mo_findPlaced_101 rfl ?_
    refine zi_icmp_le (tgt := 109) d_Mo_findPlaced_102 rfl (fun c9 => ?_) (fun c9 => ?_)
    · rw [if_pos c9] at h
      refine zi_lo [(0, .ref a0), (1, .int x1), (2, .int x2), (3, .int x3), (4, .int x4)] [0, 1, 2, 3, 4] rfl ?_
      exact K_Mo_findPlaced_b109 n E S r18 a0 x1 x2 x3 x4 M r M' hr18 h
    · rw [if_neg c9] at h
      refine zi_iconst 1 d_Mo_findPlaced_105 rfl ?_
      refine zi_goto (tgt := 110) d_Mo_findPlaced_106 rfl ?_
      refine zi_lo [(0, .ref a0), (1, .int x1), (2, .int x2), (3, .int x3), (4, .int x4)] [0, 1, 2, 3, 4] rfl ?_
      exact K_Mo_findPlaced_b110 n E S r18 a0 x1 x2 x3 x4 1 M r M' hr18 h
theorem K_Mo_findPlaced_L54 (n : Nat) (E : zE) (S : zS) (r18 : Nat × Int32 × Int32 × Int32 × zH → Option (Int32 × zH)) (r54 : Nat × Int32 × Int32 × Int32 × Int32 × Int32 × zH → Option (Int32 × zH)) (a0 : Nat) (x1 : Int32) (x2 : Int32) (x3 : Int32) (x4 : Int32) (x5 : Int32) (M : zH) (r : Int32) (M' : zH) (hr18 : ∀ (a0 : Nat) (x1 : Int32) (x2 : Int32) (x3 : Int32) (M : zH), r18 (a0, x1, x2, x3, M) = some (r, M') → zG E Y_Mo_findPlaced (some (.int r), S, M') 18 [(0, .ref a0), (1, .int x1), (2, .int x2), (3, .int x3)] [] S M 0 0) (hr54 : ∀ (a0 : Nat) (x1 : Int32) (x2 : Int32) (x3 : Int32) (x4 : Int32) (x5 : Int32) (M : zH), r54 (a0, x1, x2, x3, x4, x5, M) = some (r, M') → zG E Y_Mo_findPlaced (some (.int r), S, M') 54 [(0, .ref a0), (1, .int x1), (2, .int x2), (3, .int x3), (4, .int x4), (5, .int x5)] [] S M 0 0) (h : F_Mo_findPlaced_L54 n E S r18 r54 a0 x1 x2 x3 x4 x5 M = some (r, M')) : zG E Y_Mo_findPlaced (some (.int r), S, M') 54 [(0, .ref a0), (1, .int x1), (2, .int x2), (3, .int x3), (4, .int x4), (5, .int x5)] [] S M 0 0 := by
  unfold F_Mo_findPlaced_L54 at h
  refine zi_iload 5 d_Mo_findPlaced_54 rfl ?_
  refine zi_iload_n 1 d_Mo_findPlaced_56 rfl ?_
  refine zi_icmp_ge (tgt := 94) d_Mo_findPlaced_57 rfl (fun c10 => ?_) (fun c10 => ?_)
  · rw [if_pos c10] at h
    refine zi_lo [(0, .ref a0), (1, .int x1), (2, .int x2), (3, .int x3), (4, .int x4)] [0, 1, 2, 3, 4] rfl ?_
    exact K_Mo_findPlaced_b94 n E S r18 a0 x1 x2 x3 x4 M r M' hr18 h
  · rw [if_neg c10] at h
    refine zi_iload_n 3 d_Mo_findPlaced_60 rfl ?_
    refine zi_iload_n 1 d_Mo_findPlaced_61 rfl ?_
    refine zi_icmp_ne (tgt := 94) d_Mo_findPlaced_62 rfl (fun c11 => ?_) (fun c11 => ?_)
    · rw [if_neg c11] at h
      refine zi_lo [(0, .ref a0), (1, .int x1), (2, .int x2), (3, .int x3), (4, .int x4)] [0, 1, 2, 3, 4] rfl ?_
      exact K_Mo_findPlaced_b94 n E S r18 a0 x1 x2 x3 x4 M r M' hr18 h
    · rw [if_pos c11] at h
      refine zi_iload 4 d_Mo_findPlaced_65 rfl ?_
      refine zi_aload_n 0 d_Mo_findPlaced_67 rfl ?_
      obtain ⟨b12, eb12, h⟩ := zbind h
      refine zo_getR 71 zkd_11 42 d_Mo_findPlaced_68 eb12 rfl tw_1273 rfl ?_
      refine zi_bipush 8 d_Mo_findPlaced_71 rfl ?_
      refine zi_iload 5 d_Mo_findPlaced_73 rfl ?_
      refine zi_imul d_Mo_findPlaced_75 ?_
      refine zi_aload_n 0 d_Mo_findPlaced_76 rfl ?_
      obtain ⟨b13, eb13, h⟩ := zbind h
      refine zo_getR 80 zkd_11 43 d_Mo_findPlaced_77 eb13 rfl tw_1274 rfl ?_
      refine zi_iload 5 d_Mo_findPlaced_80 rfl ?_
      obtain ⟨v14, ev14, h⟩ := zbind h
      refine zo_iald 83 d_Mo_findPlaced_82 ev14 rfl ?_
      refine zi_iadd d_Mo_findPlaced_83 ?_
      obtain ⟨v15, ev15, h⟩ := zbind h
      refine zo_iald 85 d_Mo_findPlaced_84 ev15 rfl ?_
      refine zi_iadd d_Mo_findPlaced_85 ?_
      refine zi_istore [(4, .int (x4 + v15)), (0, .ref a0), (1, .int x1), (2, .int x2), (3, .int x3), (5, .int x5)] d_Mo_findPlaced_86 (by decide) rfl ?_
      refine zi_iinc 5 (x5 + 1) [(5, .int (x5 + 1)), (4, .int (x4 + v15)), (0, .ref a0), (1, .int x1), (2, .int x2), (3, .int x3)] d_Mo_findPlaced_88 rfl rfl (by decide) rfl ?_
      refine zi_goto (tgt := 54) d_Mo_findPlaced_91 rfl ?_
      refine zi_lo [(0, .ref a0), (1, .int x1), (2, .int x2), (3, .int x3), (4, .int (x4 + v15)), (5, .int (x5 + 1))] [2, 3, 4, 5, 1, 0] rfl ?_
      exact hr54 a0 x1 x2 x3 (x4 + v15) (x5 + 1) M h
theorem K_Mo_findPlaced_b54 (n : Nat) (E : zE) (S : zS) (r18 : Nat × Int32 × Int32 × Int32 × zH → Option (Int32 × zH)) (a0 : Nat) (x1 : Int32) (x2 : Int32) (x3 : Int32) (x4 : Int32) (x5 : Int32) (M : zH) (r : Int32) (M' : zH) (hr18 : ∀ (a0 : Nat) (x1 : Int32) (x2 : Int32) (x3 : Int32) (M : zH), r18 (a0, x1, x2, x3, M) = some (r, M') → zG E Y_Mo_findPlaced (some (.int r), S, M') 18 [(0, .ref a0), (1, .int x1), (2, .int x2), (3, .int x3)] [] S M 0 0) (h : F_Mo_findPlaced_b54 n E S r18 (a0, x1, x2, x3, x4, x5, M) = some (r, M')) : zG E Y_Mo_findPlaced (some (.int r), S, M') 54 [(0, .ref a0), (1, .int x1), (2, .int x2), (3, .int x3), (4, .int x4), (5, .int x5)] [] S M 0 0 := by
  have key : ∀ (k : Nat) (a0 : Nat) (x1 : Int32) (x2 : Int32) (x3 : Int32) (x4 : Int32) (x5 : Int32) (M : zH), zfix (fun r54 s => F_Mo_findPlaced_L54 n E S r18 r54 s.1 s.2.1 s.2.2.1 s.2.2.2.1 s.2.2.2.2.1 s.2.2.2.2.2.1 s.2.2.2.2.2.2) k (a0, x1, x2, x3, x4, x5, M) = some (r, M') → zG E Y_Mo_findPlaced (some (.int r), S, M') 54 [(0, .ref a0), (1, .int x1), (2, .int x2), (3, .int x3), (4, .int x4), (5, .int x5)] [] S M 0 0 := by
    intro k
    induction k with
    | zero => intro a0 x1 x2 x3 x4 x5 M h; cases h
    | succ k ih => intro a0 x1 x2 x3 x4 x5 M h; exact K_Mo_findPlaced_L54 n E S r18 _ a0 x1 x2 x3 x4 x5 M r M' hr18 (fun a0 x1 x2 x3 x4 x5 M h => ih a0 x1 x2 x3 x4 x5 M h) h
  exact key n a0 x1 x2 x3 x4 x5 M h
theorem K_Mo_findPlaced_b48 (n : Nat) (E : zE) (S : zS) (r18 : Nat × Int32 × Int32 × Int32 × zH → Option (Int32 × zH)) (a0 : Nat) (x1 : Int32) (x2 : Int32) (x3 : Int32) (M : zH) (r : Int32) (M' : zH) (hr18 : ∀ (a0 : Nat) (x1 : Int32) (x2 : Int32) (x3 : Int32) (M : zH), r18 (a0, x1, x2, x3, M) = some (r, M') → zG E Y_Mo_findPlaced (some (.int r), S, M') 18 [(0, .ref a0), (1, .int x1), (2, .int x2), (3, .int x3)] [] S M 0 0) (h : F_Mo_findPlaced_b48 n E S r18 a0 x1 x2 x3 M = some (r, M')) : zG E Y_Mo_findPlaced (some (.int r), S, M') 48 [(0, .ref a0), (1, .int x1), (2, .int x2), (3, .int x3)] [] S M 0 0 := by
  unfold F_Mo_findPlaced_b48 at h
  refine zi_iconst 0 d_Mo_findPlaced_48 rfl ?_
  refine zi_istore [(4, .int 0), (0, .ref a0), (1, .int x1), (2, .int x2), (3, .int x3)] d_Mo_findPlaced_49 (by decide) rfl ?_
  refine zi_iconst 0 d_Mo_findPlaced_51 rfl ?_
  refine zi_istore [(5, .int 0), (4, .int 0), (0, .ref a0), (1, .int x1), (2, .int x2), (3, .int x3)] d_Mo_findPlaced_52 (by decide) rfl ?_
  refine zi_lo [(0, .ref a0), (1, .int x1), (2, .int x2), (3, .int x3), (4, .int 0), (5, .int 0)] [2, 3, 4, 5, 1, 0] rfl ?_
  exact K_Mo_findPlaced_b54 n E S r18 a0 x1 x2 x3 0 0 M r M' hr18 h
theorem K_Mo_findPlaced_L18 (n : Nat) (E : zE) (S : zS) (r18 : Nat × Int32 × Int32 × Int32 × zH → Option (Int32 × zH)) (a0 : Nat) (x1 : Int32) (x2 : Int32) (x3 : Int32) (M : zH) (r : Int32) (M' : zH) (hr18 : ∀ (a0 : Nat) (x1 : Int32) (x2 : Int32) (x3 : Int32) (M : zH), r18 (a0, x1, x2, x3, M) = some (r, M') → zG E Y_Mo_findPlaced (some (.int r), S, M') 18 [(0, .ref a0), (1, .int x1), (2, .int x2), (3, .int x3)] [] S M 0 0) (h : F_Mo_findPlaced_L18 n E S r18 a0 x1 x2 x3 M = some (r, M')) : zG E Y_Mo_findPlaced (some (.int r), S, M') 18 [(0, .ref a0), (1, .int x1), (2, .int x2), (3, .int x3)] [] S M 0 0 := by
  unfold F_Mo_findPlaced_L18 at h
  refine zi_iload_n 3 d_Mo_findPlaced_18 rfl ?_
  refine zi_if_lt (tgt := 185) d_Mo_findPlaced_19 rfl (fun c16 => ?_) (fun c16 => ?_)
  · rw [if_pos c16] at h
    refine zi_iload_n 2 d_Mo_findPlaced_185 rfl ?_
    cases h
    exact zo_ret d_Mo_findPlaced_186 (Nat.le_of_ble_eq_true rfl) (Nat.le_of_ble_eq_true rfl) rfl
  · rw [if_neg c16] at h
    refine zi_aload_n 0 d_Mo_findPlaced_22 rfl ?_
    obtain ⟨b17, eb17, h⟩ := zbind h
    refine zo_getR 26 zkd_11 43 d_Mo_findPlaced_23 eb17 rfl tw_1274 rfl ?_
    refine zi_iload_n 3 d_Mo_findPlaced_26 rfl ?_
    refine zi_dup2 d_Mo_findPlaced_27 rfl rfl ?_
    obtain ⟨v18, ev18, h⟩ := zbind h
    refine zo_iald 29 d_Mo_findPlaced_28 ev18 rfl ?_
    refine zi_iconst 1 d_Mo_findPlaced_29 rfl ?_
    refine zi_iadd d_Mo_findPlaced_30 ?_
    obtain ⟨m19, em19, h⟩ := zbind h
    refine zo_iast 32 d_Mo_findPlaced_31 em19 rfl ?_
    refine zi_iload_n 3 d_Mo_findPlaced_32 rfl ?_
    refine zi_iload_n 1 d_Mo_findPlaced_33 rfl ?_
    refine zi_icmp_eq (tgt := 48) d_Mo_findPlaced_34 rfl (fun c20 => ?_) (fun c20 => ?_)
    · rw [if_pos c20] at h
      refine zi_lo [(0, .ref a0), (1, .int x1), (2, .int x2), (3, .int x3)] [0, 1, 2, 3] rfl ?_
      exact K_Mo_findPlaced_b48 n E S r18 a0 x1 x2 x3 m19 r M' hr18 h
    · rw [if_neg c20] at h
      refine zi_aload_n 0 d_Mo_findPlaced_37 rfl ?_
      refine zo_getR 41 zkd_11 43 d_Mo_findPlaced_38 eb17 rfl tw_1274 rfl ?_
      refine zi_iload_n 3 d_Mo_findPlaced_41 rfl ?_
      obtain ⟨v21, ev21, h⟩ := zbind h
      refine zo_iald 43 d_Mo_findPlaced_42 ev21 rfl ?_
      refine zi_bipush 8 d_Mo_findPlaced_43 rfl ?_
      refine zi_icmp_lt (tgt := 164) d_Mo_findPlaced_45 rfl (fun c22 => ?_) (fun c22 => ?_)
      · rw [if_pos c22] at h
        refine zi_aload_n 0 d_Mo_findPlaced_164 rfl ?_
        refine zi_iload_n 3 d_Mo_findPlaced_165 rfl ?_
        obtain ⟨q23, eq23, h⟩ := zbind h
        refine zo_virt (k' := 0) (n' := 0) 169 [.int x3] [] [.int (bI q23.1)] zkd_11 (zgR_s eb17).1 (C_Mo_isNew n E S a0 x3 m19 q23.1 q23.2 eq23) d_Mo_findPlaced_166 tw_1766 tw_1763 tw_1765 ts_90 tw_13 dd_Mo_isNew ⟨Nat.le_of_ble_eq_true rfl, Nat.le_of_ble_eq_true rfl, Nat.le_of_ble_eq_true rfl, Nat.le_of_ble_eq_true rfl⟩ (Nat.le_of_ble_eq_true rfl) rfl rfl rfl rfl ?_
        refine zo_ifeqB d_Mo_findPlaced_169 rfl 172 rfl (fun c24 => ?_) (fun c24 => ?_)
        · rw [if_neg c24] at h
          refine zi_lo [(0, .ref a0), (1, .int x1), (2, .int x2), (3, .int x3)] [0, 1, 2, 3] rfl ?_
          exact hr18 a0 x1 x2 x3 q23.2 h
        · rw [if_pos c24] at h
          refine zi_iinc 3 (x3 + 1) [(3, .int (x3 + 1)), (0, .ref a0), (1, .int x1), (2, .int x2)] d_Mo_findPlaced_172 rfl rfl (by decide) rfl ?_
          refine zi_aload_n 1 d_Mo_findPlaced_175 rfl ?_
          refine zo_getR 179 zkd_11 43 d_Mo_findPlaced_176 eb17 rfl tw_1274 rfl ?_
          refine zi_iload_n 0 d_Mo_findPlaced_179 rfl ?_
          refine zi_iconst (-1) d_Mo_findPlaced_180 rfl ?_
          obtain ⟨m25, em25, h⟩ := zbind h
          refine zo_iast 182 d_Mo_findPlaced_181 em25 rfl ?_
          refine zi_goto (tgt := 18) d_Mo_findPlaced_182 rfl ?_
          refine zi_lo [(0, .ref a0), (1, .int x1), (2, .int x2), (3, .int (x3 + 1))] [1, 2, 3, 0] rfl ?_
          exact hr18 a0 x1 x2 (x3 + 1) m25 h
      · rw [if_neg c22] at h
        refine zi_lo [(0, .ref a0), (1, .int x1), (2, .int x2), (3, .int x3)] [0, 1, 2, 3] rfl ?_
        exact K_Mo_findPlaced_b48 n E S r18 a0 x1 x2 x3 m19 r M' hr18 h
theorem K_Mo_findPlaced_b18 (n : Nat) (E : zE) (S : zS) (a0 : Nat) (x1 : Int32) (x2 : Int32) (x3 : Int32) (M : zH) (r : Int32) (M' : zH)  (h : F_Mo_findPlaced_b18 n E S (a0, x1, x2, x3, M) = some (r, M')) : zG E Y_Mo_findPlaced (some (.int r), S, M') 18 [(0, .ref a0), (1, .int x1), (2, .int x2), (3, .int x3)] [] S M 0 0 := by
  have key : ∀ (k : Nat) (a0 : Nat) (x1 : Int32) (x2 : Int32) (x3 : Int32) (M : zH), zfix (fun r18 s => F_Mo_findPlaced_L18 n E S r18 s.1 s.2.1 s.2.2.1 s.2.2.2.1 s.2.2.2.2) k (a0, x1, x2, x3, M) = some (r, M') → zG E Y_Mo_findPlaced (some (.int r), S, M') 18 [(0, .ref a0), (1, .int x1), (2, .int x2), (3, .int x3)] [] S M 0 0 := by
    intro k
    induction k with
    | zero => intro a0 x1 x2 x3 M h; cases h
    | succ k ih => intro a0 x1 x2 x3 M h; exact K_Mo_findPlaced_L18 n E S _ a0 x1 x2 x3 M r M'  (fun a0 x1 x2 x3 M h => ih a0 x1 x2 x3 M h) h
  exact key n a0 x1 x2 x3 M h
theorem K_Mo_findPlaced (n : Nat) (E : zE) (S : zS) (a0 : Nat) (M : zH) (r : Int32) (M' : zH)  (h : F_Mo_findPlaced n E S a0 M = some (r, M')) : zG E Y_Mo_findPlaced (some (.int r), S, M') 0 [(0, .ref a0)] [] S M 0 0 := by
  unfold F_Mo_findPlaced at h
  refine zi_aload_n 0 d_Mo_findPlaced_0 rfl ?_
  obtain ⟨b26, eb26, h⟩ := zbind h
  refine zo_getR 4 zkd_11 3 d_Mo_findPlaced_1 eb26 rfl tw_1234 rfl ?_
  refine zi_iconst 0 d_Mo_findPlaced_4 rfl ?_
  obtain ⟨v27, ev27, h⟩ := zbind h
  refine zo_iald 6 d_Mo_findPlaced_5 ev27 rfl ?_
  refine zi_istore_n [(1, .int v27), (0, .ref a0)] d_Mo_findPlaced_6 (by decide) rfl ?_
  refine zi_iconst (-1) d_Mo_findPlaced_7 rfl ?_
  refine zi_istore_n [(2, .int (-1)), (1, .int v27), (0, .ref a0)] d_Mo_findPlaced_8 (by decide) rfl ?_
  refine zi_iconst 0 d_Mo_findPlaced_9 rfl ?_
  refine zi_istore_n [(3, .int 0), (2, .int (-1)), (1, .int v27), (0, .ref a0)] d_Mo_findPlaced_10 (by decide) rfl ?_
  refine zi_aload_n 3 d_Mo_findPlaced_11 rfl ?_
  obtain ⟨b28, eb28, h⟩ := zbind h
  refine zo_getR 15 zkd_11 43 d_Mo_findPlaced_12 eb28 rfl tw_1274 rfl ?_
  refine zi_iconst 0 d_Mo_findPlaced_15 rfl ?_
  refine zi_iconst (-1) d_Mo_findPlaced_16 rfl ?_
  obtain ⟨m29, em29, h⟩ := zbind h
  refine zo_iast 18 d_Mo_findPlaced_17 em29 rfl ?_
  refine zi_lo [(0, .ref a0), (1, .int v27), (2, .int (-1)), (3, .int 0)] [3, 2, 1, 0] rfl ?_
  exact K_Mo_findPlaced_b18 n E S a0 v27 (-1) 0 m29 r M'  h
theorem C_Mo_findPlaced (n : Nat) (E : zE) (S : zS) (a0 : Nat) (M : zH) (r : Int32) (M' : zH) (h : F_Mo_findPlaced n E S a0 M = some (r, M')) : zC E Y_Mo_findPlaced [.ref a0] S M (some (.int r), S, M') :=
  zC.of (Or.inl (show plainName "NightColanderModel" = true by decide)) (Nat.le_of_ble_eq_true rfl) (trivial) (K_Mo_findPlaced n E S a0 M r M' h)
theorem d_Mo_layCaught_0 : decode (yB Y_Mo_layCaught) 0 = .ok (.iconst 0, 1) := by decide +kernel
theorem d_Mo_layCaught_1 : decode (yB Y_Mo_layCaught) 1 = .ok (.istore_n 2, 1) := by decide +kernel
theorem d_Mo_layCaught_2 : decode (yB Y_Mo_layCaught) 2 = .ok (.iload_n 2, 1) := by decide +kernel
theorem d_Mo_layCaught_3 : decode (yB Y_Mo_layCaught) 3 = .ok (.bipush 24, 2) := by decide +kernel
theorem d_Mo_layCaught_5 : decode (yB Y_Mo_layCaught) 5 = .ok (.if_icmp .ge 16, 3) := by decide +kernel
theorem d_Mo_layCaught_8 : decode (yB Y_Mo_layCaught) 8 = .ok (.aload_n 0, 1) := by decide +kernel
theorem d_Mo_layCaught_9 : decode (yB Y_Mo_layCaught) 9 = .ok (.getfield 115, 3) := by decide +kernel
theorem d_Mo_layCaught_12 : decode (yB Y_Mo_layCaught) 12 = .ok (.iload_n 2, 1) := by decide +kernel
theorem d_Mo_layCaught_13 : decode (yB Y_Mo_layCaught) 13 = .ok (.iconst (-1), 1) := by decide +kernel
theorem d_Mo_layCaught_14 : decode (yB Y_Mo_layCaught) 14 = .ok (.iastore, 1) := by decide +kernel
theorem d_Mo_layCaught_15 : decode (yB Y_Mo_layCaught) 15 = .ok (.iinc 2 1, 3) := by decide +kernel
theorem d_Mo_layCaught_18 : decode (yB Y_Mo_layCaught) 18 = .ok (.goto (-16), 3) := by decide +kernel
theorem d_Mo_layCaught_21 : decode (yB Y_Mo_layCaught) 21 = .ok (.iconst 0, 1) := by decide +kernel
theorem d_Mo_layCaught_22 : decode (yB Y_Mo_layCaught) 22 = .ok (.istore_n 2, 1) := by decide +kernel
theorem d_Mo_layCaught_23 : decode (yB Y_Mo_layCaught) 23 = .ok (.iload_n 2, 1) := by decide +kernel
theorem d_Mo_layCaught_24 : decode (yB Y_Mo_layCaught) 24 = .ok (.aload_n 0, 1) := by decide +kernel
theorem d_Mo_layCaught_25 : decode (yB Y_Mo_layCaught) 25 = .ok (.getfield 13, 3) := by decide +kernel
theorem d_Mo_layCaught_28 : decode (yB Y_Mo_layCaught) 28 = .ok (.iconst 0, 1) := by decide +kernel
theorem d_Mo_layCaught_29 : decode (yB Y_Mo_layCaught) 29 = .ok (.iaload, 1) := by decide +kernel
theorem d_Mo_layCaught_30 : decode (yB Y_Mo_layCaught) 30 = .ok (.if_icmp .ge 104, 3) := by decide +kernel
theorem d_Mo_layCaught_33 : decode (yB Y_Mo_layCaught) 33 = .ok (.iconst 0, 1) := by decide +kernel
theorem d_Mo_layCaught_34 : decode (yB Y_Mo_layCaught) 34 = .ok (.istore_n 3, 1) := by decide +kernel
theorem d_Mo_layCaught_35 : decode (yB Y_Mo_layCaught) 35 = .ok (.iload_n 3, 1) := by decide +kernel
theorem d_Mo_layCaught_36 : decode (yB Y_Mo_layCaught) 36 = .ok (.bipush 8, 2) := by decide +kernel
theorem d_Mo_layCaught_38 : decode (yB Y_Mo_layCaught) 38 = .ok (.if_icmp .ge 90, 3) := by decide +kernel
theorem d_Mo_layCaught_41 : decode (yB Y_Mo_layCaught) 41 = .ok (.aload_n 0, 1) := by decide +kernel
theorem d_Mo_layCaught_42 : decode (yB Y_Mo_layCaught) 42 = .ok (.iload_n 2, 1) := by decide +kernel
theorem d_Mo_layCaught_43 : decode (yB Y_Mo_layCaught) 43 = .ok (.iload_n 3, 1) := by decide +kernel
theorem d_Mo_layCaught_44 : decode (yB Y_Mo_layCaught) 44 = .ok (.invokevirtual 225, 3) := by decide +kernel
theorem d_Mo_layCaught_47 : decode (yB Y_Mo_layCaught) 47 = .ok (.ifCond .ne 75, 3) := by decide +kernel
theorem d_Mo_layCaught_50 : decode (yB Y_Mo_layCaught) 50 = .ok (.aload_n 0, 1) := by decide +kernel
theorem d_Mo_layCaught_51 : decode (yB Y_Mo_layCaught) 51 = .ok (.bipush 16, 2) := by decide +kernel
theorem d_Mo_layCaught_53 : decode (yB Y_Mo_layCaught) 53 = .ok (.invokevirtual 169, 3) := by decide +kernel
theorem d_Mo_layCaught_56 : decode (yB Y_Mo_layCaught) 56 = .ok (.aload_n 0, 1) := by decide +kernel
theorem d_Mo_layCaught_57 : decode (yB Y_Mo_layCaught) 57 = .ok (.getfield 13, 3) := by decide +kernel
theorem d_Mo_layCaught_60 : decode (yB Y_Mo_layCaught) 60 = .ok (.bipush 51, 2) := by decide +kernel
theorem d_Mo_layCaught_62 : decode (yB Y_Mo_layCaught) 62 = .ok (.iload_n 2, 1) := by decide +kernel
theorem d_Mo_layCaught_63 : decode (yB Y_Mo_layCaught) 63 = .ok (.iadd, 1) := by decide +kernel
theorem d_Mo_layCaught_64 : decode (yB Y_Mo_layCaught) 64 = .ok (.iload_n 3, 1) := by decide +kernel
theorem d_Mo_layCaught_65 : decode (yB Y_Mo_layCaught) 65 = .ok (.iastore, 1) := by decide +kernel
theorem d_Mo_layCaught_66 : decode (yB Y_Mo_layCaught) 66 = .ok (.iconst 0, 1) := by decide +kernel
theorem d_Mo_layCaught_67 : decode (yB Y_Mo_layCaught) 67 = .ok (.istore 4, 2) := by decide +kernel
theorem d_Mo_layCaught_69 : decode (yB Y_Mo_layCaught) 69 = .ok (.iconst 0, 1) := by decide +kernel
theorem d_Mo_layCaught_70 : decode (yB Y_Mo_layCaught) 70 = .ok (.istore 5, 2) := by decide +kernel
theorem d_Mo_layCaught_72 : decode (yB Y_Mo_layCaught) 72 = .ok (.iload 5, 2) := by decide +kernel
theorem d_Mo_layCaught_74 : decode (yB Y_Mo_layCaught) 74 = .ok (.iload_n 1, 1) := by decide +kernel
theorem d_Mo_layCaught_75 : decode (yB Y_Mo_layCaught) 75 = .ok (.if_icmp .ge 28, 3) := by decide +kernel
theorem d_Mo_layCaught_78 : decode (yB Y_Mo_layCaught) 78 = .ok (.iload 4, 2) := by decide +kernel
theorem d_Mo_layCaught_80 : decode (yB Y_Mo_layCaught) 80 = .ok (.aload_n 0, 1) := by decide +kernel
theorem d_Mo_layCaught_81 : decode (yB Y_Mo_layCaught) 81 = .ok (.iload_n 2, 1) := by decide +kernel
theorem d_Mo_layCaught_82 : decode (yB Y_Mo_layCaught) 82 = .ok (.aload_n 0, 1) := by decide +kernel
theorem d_Mo_layCaught_83 : decode (yB Y_Mo_layCaught) 83 = .ok (.iload_n 3, 1) := by decide +kernel
theorem d_Mo_layCaught_84 : decode (yB Y_Mo_layCaught) 84 = .ok (.invokevirtual 232, 3) := by decide +kernel
theorem d_Mo_layCaught_87 : decode (yB Y_Mo_layCaught) 87 = .ok (.invokevirtual 460, 3) := by decide +kernel
theorem d_Mo_layCaught_90 : decode (yB Y_Mo_layCaught) 90 = .ok (.iadd, 1) := by decide +kernel
theorem d_Mo_layCaught_91 : decode (yB Y_Mo_layCaught) 91 = .ok (.istore 4, 2) := by decide +kernel
theorem d_Mo_layCaught_93 : decode (yB Y_Mo_layCaught) 93 = .ok (.aload_n 0, 1) := by decide +kernel
theorem d_Mo_layCaught_94 : decode (yB Y_Mo_layCaught) 94 = .ok (.invokevirtual 463, 3) := by decide +kernel
theorem d_Mo_layCaught_97 : decode (yB Y_Mo_layCaught) 97 = .ok (.iinc 5 1, 3) := by decide +kernel
theorem d_Mo_layCaught_100 : decode (yB Y_Mo_layCaught) 100 = .ok (.goto (-28), 3) := by decide +kernel
theorem d_Mo_layCaught_103 : decode (yB Y_Mo_layCaught) 103 = .ok (.aload_n 0, 1) := by decide +kernel
theorem d_Mo_layCaught_104 : decode (yB Y_Mo_layCaught) 104 = .ok (.bipush 16, 2) := by decide +kernel
theorem d_Mo_layCaught_106 : decode (yB Y_Mo_layCaught) 106 = .ok (.invokevirtual 173, 3) := by decide +kernel
theorem d_Mo_layCaught_109 : decode (yB Y_Mo_layCaught) 109 = .ok (.aload_n 0, 1) := by decide +kernel
theorem d_Mo_layCaught_110 : decode (yB Y_Mo_layCaught) 110 = .ok (.getfield 115, 3) := by decide +kernel
theorem d_Mo_layCaught_113 : decode (yB Y_Mo_layCaught) 113 = .ok (.bipush 8, 2) := by decide +kernel
theorem d_Mo_layCaught_115 : decode (yB Y_Mo_layCaught) 115 = .ok (.iload_n 2, 1) := by decide +kernel
theorem d_Mo_layCaught_116 : decode (yB Y_Mo_layCaught) 116 = .ok (.imul, 1) := by decide +kernel
theorem d_Mo_layCaught_117 : decode (yB Y_Mo_layCaught) 117 = .ok (.iload_n 3, 1) := by decide +kernel
theorem d_Mo_layCaught_118 : decode (yB Y_Mo_layCaught) 118 = .ok (.iadd, 1) := by decide +kernel
theorem d_Mo_layCaught_119 : decode (yB Y_Mo_layCaught) 119 = .ok (.iload 4, 2) := by decide +kernel
theorem d_Mo_layCaught_121 : decode (yB Y_Mo_layCaught) 121 = .ok (.iastore, 1) := by decide +kernel
theorem d_Mo_layCaught_122 : decode (yB Y_Mo_layCaught) 122 = .ok (.iinc 3 1, 3) := by decide +kernel
theorem d_Mo_layCaught_125 : decode (yB Y_Mo_layCaught) 125 = .ok (.goto (-90), 3) := by decide +kernel
theorem d_Mo_layCaught_128 : decode (yB Y_Mo_layCaught) 128 = .ok (.iinc 2 1, 3) := by decide +kernel
theorem d_Mo_layCaught_131 : decode (yB Y_Mo_layCaught) 131 = .ok (.goto (-108), 3) := by decide +kernel
theorem d_Mo_layCaught_134 : decode (yB Y_Mo_layCaught) 134 = .ok (.return_, 1) := by decide +kernel
def F_Mo_layCaught_b122 (n : Nat) (E : zE) (S : zS) (r23 : Nat × Int32 × Int32 × zH → Option (zH)) (r35 : Nat × Int32 × Int32 × Int32 × zH → Option (zH)) (a0 : Nat) (x1 : Int32) (x2 : Int32) (x3 : Int32) (M : zH) : Option (zH) :=
  r35 (a0, x1, x2, x3 + 1, M)
def F_Mo_layCaught_L72 (n : Nat) (E : zE) (S : zS) (r23 : Nat × Int32 × Int32 × zH → Option (zH)) (r35 : Nat × Int32 × Int32 × Int32 × zH → Option (zH)) (r72 : Nat × Int32 × Int32 × Int32 × Int32 × Int32 × zH → Option (zH)) (a0 : Nat) (x1 : Int32) (x2 : Int32) (x3 : Int32) (x4 : Int32) (x5 : Int32) (M : zH) : Option (zH) :=
  if x1 ≤ x5 then
    (zck S a0 11).bind fun u2 =>
    (F_Mo_putBack n E S a0 16 M).bind fun q3 =>
    (zgR S a0 11 42).bind fun b4 =>
    (zstI S q3 b4 ((8 * x2) + x3) x4).bind fun m5 =>
    F_Mo_layCaught_b122 n E S r23 r35 a0 x1 x2 x3 m5
  else
    (zck S a0 11).bind fun u6 =>
    (F_Mo_flowOn n E S a0 x3 M).bind fun q7 =>
    (F_Mo_catchIn n E S a0 x2 q7.1 q7.2).bind fun q8 =>
    (F_Mo_turnAll n E S a0 q8.2).bind fun q9 =>
    r72 (a0, x1, x2, x3, x4 + q8.1, x5 + 1, q9)
def F_Mo_layCaught_b72 (n : Nat) (E : zE) (S : zS) (r23 : Nat × Int32 × Int32 × zH → Option (zH)) (r35 : Nat × Int32 × Int32 × Int32 × zH → Option (zH)) : Nat × Int32 × Int32 × Int32 × Int32 × Int32 × zH → Option (zH) := zfix (fun r72 s => F_Mo_layCaught_L72 n E S r23 r35 r72 s.1 s.2.1 s.2.2.1 s.2.2.2.1 s.2.2.2.2.1 s.2.2.2.2.2.1 s.2.2.2.2.2.2) n
def F_Mo_layCaught_L35 (n : Nat) (E : zE) (S : zS) (r23 : Nat × Int32 × Int32 × zH → Option (zH)) (r35 : Nat × Int32 × Int32 × Int32 × zH → Option (zH)) (a0 : Nat) (x1 : Int32) (x2 : Int32) (x3 : Int32) (M : zH) : Option (zH) :=
  if 8 ≤ x3 then
    r23 (a0, x1, x2 + 1, M)
  else
    (zck S a0 11).bind fun u11 =>
    (F_Mo_isBarred n E S a0 x2 x3 M).bind fun q12 =>
    if q12.1 = true then
      F_Mo_layCaught_b122 n E S r23 r35 a0 x1 x2 x3 q12.2
    else
      (F_Mo_keepAll n E S a0 16 q12.2).bind fun q14 =>
      (zgR S a0 11 3).bind fun b15 =>
      (zstI S q14 b15 (51 + x2) x3).bind fun m16 =>
      F_Mo_layCaught_b72 n E S r23 r35 (a0, x1, x2, x3, 0, 0, m16)
def F_Mo_layCaught_b35 (n : Nat) (E : zE) (S : zS) (r23 : Nat × Int32 × Int32 × zH → Option (zH)) : Nat × Int32 × Int32 × Int32 × zH → Option (zH) := zfix (fun r35 s => F_Mo_layCaught_L35 n E S r23 r35 s.1 s.2.1 s.2.2.1 s.2.2.2.1 s.2.2.2.2) n
def F_Mo_layCaught_L23 (n : Nat) (E : zE) (S : zS) (r23 : Nat × Int32 × Int32 × zH → Option (zH)) (a0 : Nat) (x1 : Int32) (x2 : Int32) (M : zH) : Option (zH) :=
  (zgR S a0 11 3).bind fun b17 =>
  (zldI S M b17 0).bind fun v18 =>
  if v18 ≤ x2 then
    some (M)
  else
    F_Mo_layCaught_b35 n E S r23 (a0, x1, x2, 0, M)
def F_Mo_layCaught_b23 (n : Nat) (E : zE) (S : zS) : Nat × Int32 × Int32 × zH → Option (zH) := zfix (fun r23 s => F_Mo_layCaught_L23 n E S r23 s.1 s.2.1 s.2.2.1 s.2.2.2) n
def F_Mo_layCaught_L2 (n : Nat) (E : zE) (S : zS) (r2 : Nat × Int32 × Int32 × zH → Option (zH)) (a0 : Nat) (x1 : Int32) (x2 : Int32) (M : zH) : Option (zH) :=
  if 24 ≤ x2 then
    F_Mo_layCaught_b23 n E S (a0, x1, 0, M)
  else
    (zgR S a0 11 42).bind fun b21 =>
    (zstI S M b21 x2 (-1)).bind fun m22 =>
    r2 (a0, x1, x2 + 1, m22)
def F_Mo_layCaught_b2 (n : Nat) (E : zE) (S : zS) : Nat × Int32 × Int32 × zH → Option (zH) := zfix (fun r2 s => F_Mo_layCaught_L2 n E S r2 s.1 s.2.1 s.2.2.1 s.2.2.2) n
def F_Mo_layCaught (n : Nat) (E : zE) (S : zS) (a0 : Nat) (x1 : Int32) (M : zH) : Option (zH) :=
  F_Mo_layCaught_b2 n E S (a0, x1, 0, M)
theorem K_Mo_layCaught_b122 (n : Nat) (E : zE) (S : zS) (r23 : Nat × Int32 × Int32 × zH → Option (zH)) (r35 : Nat × Int32 × Int32 × Int32 × zH → Option (zH)) (a0 : Nat) (x1 : Int32) (x2 : Int32) (x3 : Int32) (M : zH) (M' : zH) (hr23 : ∀ (a0 : Nat) (x1 : Int32) (x2 : Int32) (M : zH), r23 (a0, x1, x2, M) = some M' → zG E Y_Mo_layCaught (none, S, M') 23 [(0, .ref a0), (1, .int x1), (2, .int x2)] [] S M 0 0) (hr35 : ∀ (a0 : Nat) (x1 : Int32) (x2 : Int32) (x3 : Int32) (M : zH), r35 (a0, x1, x2, x3, M) = some M' → zG E Y_Mo_layCaught (none, S, M') 35 [(0, .ref a0), (1, .int x1), (2, .int x2), (3, .int x3)] [] S M 0 0) (h : F_Mo_layCaught_b122 n E S r23 r35 a0 x1 x2 x3 M = some M') : zG E Y_Mo_layCaught (none, S, M') 122 [(0, .ref a0), (1, .int x1), (2, .int x2), (3, .int x3)] [] S M 0 0 := by
  unfold F_Mo_layCaught_b122 at h
  refine zi_iinc 3 (x3 + 1) [(3, .int (x3 + 1)), (0, .ref a0), (1, .int x1), (2, .int x2)] d_Mo_layCaught_122 rfl rfl (by decide) rfl ?_
  refine zi_goto (tgt := 35) d_Mo_layCaught_125 rfl ?_
  refine zi_lo [(0, .ref a0), (1, .int x1), (2, .int x2), (3, .int (x3 + 1))] [1, 2, 3, 0] rfl ?_
  exact hr35 a0 x1 x2 (x3 + 1) M h
theorem K_Mo_layCaught_L72 (n : Nat) (E : zE) (S : zS) (r23 : Nat × Int32 × Int32 × zH → Option (zH)) (r35 : Nat × Int32 × Int32 × Int32 × zH → Option (zH)) (r72 : Nat × Int32 × Int32 × Int32 × Int32 × Int32 × zH → Option (zH)) (a0 : Nat) (x1 : Int32) (x2 : Int32) (x3 : Int32) (x4 : Int32) (x5 : Int32) (M : zH) (M' : zH) (hr23 : ∀ (a0 : Nat) (x1 : Int32) (x2 : Int32) (M : zH), r23 (a0, x1, x2, M) = some M' → zG E Y_Mo_layCaught (none, S, M') 23 [(0, .ref a0), (1, .int x1), (2, .int x2)] [] S M 0 0) (hr35 : ∀ (a0 : Nat) (x1 : Int32) (x2 : Int32) (x3 : Int32) (M : zH), r35 (a0, x1, x2, x3, M) = some M' → zG E Y_Mo_layCaught (none, S, M') 35 [(0, .ref a0), (1, .int x1), (2, .int x2), (3, .int x3)] [] S M 0 0) (hr72 : ∀ (a0 : Nat) (x1 : Int32) (x2 : Int32) (x3 : Int32) (x4 : Int32) (x5 : Int32) (M : zH), r72 (a0, x1, x2, x3, x4, x5, M) = some M' → zG E Y_Mo_layCaught (none, S, M') 72 [(0, .ref a0), (1, .int x1), (2, .int x2), (3, .int x3), (4, .int x4), (5, .int x5)] [] S M 0 0) (h : F_Mo_layCaught_L72 n E S r23 r35 r72 a0 x1 x2 x3 x4 x5 M = some M') : zG E Y_Mo_layCaught (none, S, M') 72 [(0, .ref a0), (1, .int x1), (2, .int x2), (3, .int x3), (4, .int x4), (5, .int x5)] [] S M 0 0 := by
  unfold F_Mo_layCaught_L72 at h
  refine zi_iload 5 d_Mo_layCaught_72 rfl ?_
  refine zi_iload_n 1 d_Mo_layCaught_74 rfl ?_
  refine zi_icmp_ge (tgt := 103) d_Mo_layCaught_75 rfl (fun c1 => ?_) (fun c1 => ?_)
  · rw [if_pos c1] at h
    refine zi_aload_n 0 d_Mo_layCaught_103 rfl ?_
    refine zi_bipush 16 d_Mo_layCaught_104 rfl ?_
    obtain ⟨u2, eu2, h⟩ := zbind h
    obtain ⟨q3, eq3, h⟩ := zbind h
    refine zo_virt (k' := 0) (n' := 0) 109 [.int 16] [] [] zkd_11 (zck_s eu2) (C_Mo_putBack n E S a0 16 M q3 eq3) d_Mo_layCaught_106 tw_1414 tw_1411 tw_1413 ts_37 tw_13 dd_Mo_putBack ⟨Nat.le_of_ble_eq_true rfl, Nat.le_of_ble_eq_true rfl, Nat.le_of_ble_eq_true rfl, Nat.le_of_ble_eq_true rfl⟩ (Nat.le_of_ble_eq_true rfl) rfl rfl rfl rfl ?_
    refine zi_aload_n 0 d_Mo_layCaught_109 rfl ?_
    obtain ⟨b4, eb4, h⟩ := zbind h
    refine zo_getR 113 zkd_11 42 d_Mo_layCaught_110 eb4 rfl tw_1273 rfl ?_
    refine zi_bipush 8 d_Mo_layCaught_113 rfl ?_
    refine zi_iload_n 2 d_Mo_layCaught_115 rfl ?_
    refine zi_imul d_Mo_layCaught_116 ?_
    refine zi_iload_n 3 d_Mo_layCaught_117 rfl ?_
    refine zi_iadd d_Mo_layCaught_118 ?_
    refine zi_iload 4 d_Mo_layCaught_119 rfl ?_
    obtain ⟨m5, em5, h⟩ := zbind h
    refine zo_iast 122 d_Mo_layCaught_121 em5 rfl ?_
    refine zi_lo [(0, .ref a0), (1, .int x1), (2, .int x2), (3, .int x3)] [0, 1, 2, 3] rfl ?_
    exact K_Mo_layCaught_b122 n E S r23 r35 a0 x1 x2 x3 m5 M' hr23 hr35 h
  · rw [if_neg c1] at h
    refine zi_iload 4 d_Mo_layCaught_78 rfl ?_
    refine zi_aload_n 0 d_Mo_layCaught_80 rfl ?_
    refine zi_iload_n 2 d_Mo_layCaught_81 rfl ?_
    refine zi_aload_n 0 d_Mo_layCaught_82 rfl ?_
    refine zi_iload_n 3 d_Mo_layCaught_83 rfl ?_
    obtain ⟨u6, eu6, h⟩ := zbind h
    obtain ⟨q7, eq7, h⟩ := zbind h
    refine zo_virt (k' := 0) (n' := 0) 87 [.int x3] [.int x2, .ref a0, .int x4] [.int q7.1, .int x2, .ref a0, .int x4] zkd_11 (zck_s eu6) (C_Mo_flowOn n E S a0 x3 M q7.1 q7.2 eq7) d_Mo_layCaught_84 tw_1525 tw_1522 tw_1524 ts_51 tw_13 dd_Mo_flowOn ⟨Nat.le_of_ble_eq_true rfl, Nat.le_of_ble_eq_true rfl, Nat.le_of_ble_eq_true rfl, Nat.le_of_ble_eq_true rfl⟩ (Nat.le_of_ble_eq_true rfl) rfl rfl rfl rfl ?_
    obtain ⟨q8, eq8, h⟩ := zbind h
    refine zo_virt (k' := 0) (n' := 0) 90 [.int x2, .int q7.1] [.int x4] [.int q8.1, .int x4] zkd_11 (zck_s eu6) (C_Mo_catchIn n E S a0 x2 q7.1 q7.2 q8.1 q8.2 eq8) d_Mo_layCaught_87 tw_1742 tw_1739 tw_1741 ts_86 tw_13 dd_Mo_catchIn ⟨Nat.le_of_ble_eq_true rfl, Nat.le_of_ble_eq_true rfl, Nat.le_of_ble_eq_true rfl, Nat.le_of_ble_eq_true rfl⟩ (Nat.le_of_ble_eq_true rfl) rfl rfl rfl rfl ?_
    refine zi_iadd d_Mo_layCaught_90 ?_
    refine zi_istore [(4, .int (x4 + q8.1)), (0, .ref a0), (1, .int x1), (2, .int x2), (3, .int x3), (5, .int x5)] d_Mo_layCaught_91 (by decide) rfl ?_
    refine zi_aload_n 1 d_Mo_layCaught_93 rfl ?_
    obtain ⟨q9, eq9, h⟩ := zbind h
    refine zo_virt (k' := 0) (n' := 0) 97 [] [] [] zkd_11 (zck_s eu6) (C_Mo_turnAll n E S a0 q8.2 q9 eq9) d_Mo_layCaught_94 tw_1746 tw_1743 tw_1745 ts_87 tw_13 dd_Mo_turnAll ⟨Nat.le_of_ble_eq_true rfl, Nat.le_of_ble_eq_true rfl, Nat.le_of_ble_eq_true rfl, Nat.le_of_ble_eq_true rfl⟩ (Nat.le_of_ble_eq_true rfl) rfl rfl rfl rfl ?_
    refine zi_iinc 5 (x5 + 1) [(5, .int (x5 + 1)), (4, .int (x4 + q8.1)), (0, .ref a0), (1, .int x1), (2, .int x2), (3, .int x3)] d_Mo_layCaught_97 rfl rfl (by decide) rfl ?_
    refine zi_goto (tgt := 72) d_Mo_layCaught_100 rfl ?_
    refine zi_lo [(0, .ref a0), (1, .int x1), (2, .int x2), (3, .int x3), (4, .int (x4 + q8.1)), (5, .int (x5 + 1))] [2, 3, 4, 5, 1, 0] rfl ?_
    exact hr72 a0 x1 x2 x3 (x4 + q8.1) (x5 + 1) q9 h
theorem K_Mo_layCaught_b72 (n : Nat) (E : zE) (S : zS) (r23 : Nat × Int32 × Int32 × zH → Option (zH)) (r35 : Nat × Int32 × Int32 × Int32 × zH → Option (zH)) (a0 : Nat) (x1 : Int32) (x2 : Int32) (x3 : Int32) (x4 : Int32) (x5 : Int32) (M : zH) (M' : zH) (hr23 : ∀ (a0 : Nat) (x1 : Int32) (x2 : Int32) (M : zH), r23 (a0, x1, x2, M) = some M' → zG E Y_Mo_layCaught (none, S, M') 23 [(0, .ref a0), (1, .int x1), (2, .int x2)] [] S M 0 0) (hr35 : ∀ (a0 : Nat) (x1 : Int32) (x2 : Int32) (x3 : Int32) (M : zH), r35 (a0, x1, x2, x3, M) = some M' → zG E Y_Mo_layCaught (none, S, M') 35 [(0, .ref a0), (1, .int x1), (2, .int x2), (3, .int x3)] [] S M 0 0) (h : F_Mo_layCaught_b72 n E S r23 r35 (a0, x1, x2, x3, x4, x5, M) = some M') : zG E Y_Mo_layCaught (none, S, M') 72 [(0, .ref a0), (1, .int x1), (2, .int x2), (3, .int x3), (4, .int x4), (5, .int x5)] [] S M 0 0 := by
  have key : ∀ (k : Nat) (a0 : Nat) (x1 : Int32) (x2 : Int32) (x3 : Int32) (x4 : Int32) (x5 : Int32) (M : zH), zfix (fun r72 s => F_Mo_layCaught_L72 n E S r23 r35 r72 s.1 s.2.1 s.2.2.1 s.2.2.2.1 s.2.2.2.2.1 s.2.2.2.2.2.1 s.2.2.2.2.2.2) k (a0, x1, x2, x3, x4, x5, M) = some M' → zG E Y_Mo_layCaught (none, S, M') 72 [(0, .ref a0), (1, .int x1), (2, .int x2), (3, .int x3), (4, .int x4), (5, .int x5)] [] S M 0 0 := by
    intro k
    induction k with
    | zero => intro a0 x1 x2 x3 x4 x5 M h; cases h
    | succ k ih => intro a0 x1 x2 x3 x4 x5 M h; exact K_Mo_layCaught_L72 n E S r23 r35 _ a0 x1 x2 x3 x4 x5 M M' hr23 hr35 (fun a0 x1 x2 x3 x4 x5 M h => ih a0 x1 x2 x3 x4 x5 M h) h
  exact key n a0 x1 x2 x3 x4 x5 M h
theorem K_Mo_layCaught_L35 (n : Nat) (E : zE) (S : zS) (r23 : Nat × Int32 × Int32 × zH → Option (zH)) (r35 : Nat × Int32 × Int32 × Int32 × zH → Option (zH)) (a0 : Nat) (x1 : Int32) (x2 : Int32) (x3 : Int32) (M : zH) (M' : zH) (hr23 : ∀ (a0 : Nat) (x1 : Int32) (x2 : Int32) (M : zH), r23 (a0, x1, x2, M) = some M' → zG E Y_Mo_layCaught (none, S, M') 23 [(0, .ref a0), (1, .int x1), (2, .int x2)] [] S M 0 0) (hr35 : ∀ (a0 : Nat) (x1 : Int32) (x2 : Int32) (x3 : Int32) (M : zH), r35 (a0, x1, x2, x3, M) = some M' → zG E Y_Mo_layCaught (none, S, M') 35 [(0, .ref a0), (1, .int x1), (2, .int x2), (3, .int x3)] [] S M 0 0) (h : F_Mo_layCaught_L35 n E S r23 r35 a0 x1 x2 x3 M = some M') : zG E Y_Mo_layCaught (none, S, M') 35 [(0, .ref a0), (1, .int x1), (2, .int x2), (3, .int x3)] [] S M 0 0 := by
  unfold F_Mo_layCaught_L35 at h
  refine zi_iload_n 3 d_Mo_layCaught_35 rfl ?_
  refine zi_bipush 8 d_Mo_layCaught_36 rfl ?_
  refine zi_icmp_ge (tgt := 128) d_Mo_layCaught_38 rfl (fun c10 => ?_) (fun c10 => ?_)
  · rw [if_pos c10] at h
    refine zi_iinc 2 (x2 + 1) [(2, .int (x2 + 1)), (0, .ref a0), (1, .int x1), (3, .int x3)] d_Mo_layCaught_128 rfl rfl (by decide) rfl ?_
    refine zi_goto (tgt := 23) d_Mo_layCaught_131 rfl ?_
    refine zi_lo [(0, .ref a0), (1, .int x1), (2, .int (x2 + 1))] [1, 2, 0] rfl ?_
    exact hr23 a0 x1 (x2 + 1) M h
  · rw [if_neg c10] at h
    refine zi_aload_n 0 d_Mo_layCaught_41 rfl ?_
    refine zi_iload_n 2 d_Mo_layCaught_42 rfl ?_
    refine zi_iload_n 3 d_Mo_layCaught_43 rfl ?_
    obtain ⟨u11, eu11, h⟩ := zbind h
    obtain ⟨q12, eq12, h⟩ := zbind h
    refine zo_virt (k' := 0) (n' := 0) 47 [.int x2, .int x3] [] [.int (bI q12.1)] zkd_11 (zck_s eu11) (C_Mo_isBarred n E S a0 x2 x3 M q12.1 q12.2 eq12) d_Mo_layCaught_44 tw_1512 tw_1509 tw_1511 ts_50 tw_13 dd_Mo_isBarred ⟨Nat.le_of_ble_eq_true rfl, Nat.le_of_ble_eq_true rfl, Nat.le_of_ble_eq_true rfl, Nat.le_of_ble_eq_true rfl⟩ (Nat.le_of_ble_eq_true rfl) rfl rfl rfl rfl ?_
    refine zo_ifneB d_Mo_layCaught_47 rfl 50 rfl (fun c13 => ?_) (fun c13 => ?_)
    · rw [if_pos c13] at h
      refine zi_lo [(0, .ref a0), (1, .int x1), (2, .int x2), (3, .int x3)] [0, 1, 2, 3] rfl ?_
      exact K_Mo_layCaught_b122 n E S r23 r35 a0 x1 x2 x3 q12.2 M' hr23 hr35 h
    · rw [if_neg c13] at h
      refine zi_aload_n 0 d_Mo_layCaught_50 rfl ?_
      refine zi_bipush 16 d_Mo_layCaught_51 rfl ?_
      obtain ⟨q14, eq14, h⟩ := zbind h
      refine zo_virt (k' := 0) (n' := 0) 56 [.int 16] [] [] zkd_11 (zck_s eu11) (C_Mo_keepAll n E S a0 16 q12.2 q14 eq14) d_Mo_layCaught_53 tw_1706 tw_1703 tw_1705 ts_80 tw_13 dd_Mo_keepAll ⟨Nat.le_of_ble_eq_true rfl, Nat.le_of_ble_eq_true rfl, Nat.le_of_ble_eq_true rfl, Nat.le_of_ble_eq_true rfl⟩ (Nat.le_of_ble_eq_true rfl) rfl rfl rfl rfl ?_
      refine zi_aload_n 0 d_Mo_layCaught_56 rfl ?_
      obtain ⟨b15, eb15, h⟩ := zbind h
      refine zo_getR 60 zkd_11 3 d_Mo_layCaught_57 eb15 rfl tw_1234 rfl ?_
      refine zi_bipush 51 d_Mo_layCaught_60 rfl ?_
      refine zi_iload_n 2 d_Mo_layCaught_62 rfl ?_
      refine zi_iadd d_Mo_layCaught_63 ?_
      refine zi_iload_n 3 d_Mo_layCaught_64 rfl ?_
      obtain ⟨m16, em16, h⟩ := zbind h
      refine zo_iast 66 d_Mo_layCaught_65 em16 rfl ?_
      refine zi_iconst 0 d_Mo_layCaught_66 rfl ?_
      refine zi_istore [(4, .int 0), (0, .ref a0), (1, .int x1), (2, .int x2), (3, .int x3)] d_Mo_layCaught_67 (by decide) rfl ?_
      refine zi_iconst 0 d_Mo_layCaught_69 rfl ?_
      refine zi_istore [(5, .int 0), (4, .int 0), (0, .ref a0), (1, .int x1), (2, .int x2), (3, .int x3)] d_Mo_layCaught_70 (by decide) rfl ?_
      refine zi_lo [(0, .ref a0), (1, .int x1), (2, .int x2), (3, .int x3), (4, .int 0), (5, .int 0)] [2, 3, 4, 5, 1, 0] rfl ?_
      exact K_Mo_layCaught_b72 n E S r23 r35 a0 x1 x2 x3 0 0 m16 M' hr23 hr35 h
theorem K_Mo_layCaught_b35 (n : Nat) (E : zE) (S : zS) (r23 : Nat × Int32 × Int32 × zH → Option (zH)) (a0 : Nat) (x1 : Int32) (x2 : Int32) (x3 : Int32) (M : zH) (M' : zH) (hr23 : ∀ (a0 : Nat) (x1 : Int32) (x2 : Int32) (M : zH), r23 (a0, x1, x2, M) = some M' → zG E Y_Mo_layCaught (none, S, M') 23 [(0, .ref a0), (1, .int x1), (2, .int x2)] [] S M 0 0) (h : F_Mo_layCaught_b35 n E S r23 (a0, x1, x2, x3, M) = some M') : zG E Y_Mo_layCaught (none, S, M') 35 [(0, .ref a0), (1, .int x1), (2, .int x2), (3, .int x3)] [] S M 0 0 := by
  have key : ∀ (k : Nat) (a0 : Nat) (x1 : Int32) (x2 : Int32) (x3 : Int32) (M : zH), zfix (fun r35 s => F_Mo_layCaught_L35 n E S r23 r35 s.1 s.2.1 s.2.2.1 s.2.2.2.1 s.2.2.2.2) k (a0, x1, x2, x3, M) = some M' → zG E Y_Mo_layCaught (none, S, M') 35 [(0, .ref a0), (1, .int x1), (2, .int x2), (3, .int x3)] [] S M 0 0 := by
    intro k
    induction k with
    | zero => intro a0 x1 x2 x3 M h; cases h
    | succ k ih => intro a0 x1 x2 x3 M h; exact K_Mo_layCaught_L35 n E S r23 _ a0 x1 x2 x3 M M' hr23 (fun a0 x1 x2 x3 M h => ih a0 x1 x2 x3 M h) h
  exact key n a0 x1 x2 x3 M h
theorem K_Mo_layCaught_L23 (n : Nat) (E : zE) (S : zS) (r23 : Nat × Int32 × Int32 × zH → Option (zH)) (a0 : Nat) (x1 : Int32) (x2 : Int32) (M : zH) (M' : zH) (hr23 : ∀ (a0 : Nat) (x1 : Int32) (x2 : Int32) (M : zH), r23 (a0, x1, x2, M) = some M' → zG E Y_Mo_layCaught (none, S, M') 23 [(0, .ref a0), (1, .int x1), (2, .int x2)] [] S M 0 0) (h : F_Mo_layCaught_L23 n E S r23 a0 x1 x2 M = some M') : zG E Y_Mo_layCaught (none, S, M') 23 [(0, .ref a0), (1, .int x1), (2, .int x2)] [] S M 0 0 := by
  unfold F_Mo_layCaught_L23 at h
  refine zi_iload_n 2 d_Mo_layCaught_23 rfl ?_
  refine zi_aload_n 0 d_Mo_layCaught_24 rfl ?_
  obtain ⟨b17, eb17, h⟩ := zbind h
  refine zo_getR 28 zkd_11 3 d_Mo_layCaught_25 eb17 rfl tw_1234 rfl ?_
  refine zi_iconst 0 d_Mo_layCaught_28 rfl ?_
  obtain ⟨v18, ev18, h⟩ := zbind h
  refine zo_iald 30 d_Mo_layCaught_29 ev18 rfl ?_
  refine zi_icmp_ge (tgt := 134) d_Mo_layCaught_30 rfl (fun c19 => ?_) (fun c19 => ?_)
  · rw [if_pos c19] at h
    cases h
    exact zo_ret d_Mo_layCaught_134 (Nat.le_of_ble_eq_true rfl) (Nat.le_of_ble_eq_true rfl) rfl
  · rw [if_neg c19] at h
    refine zi_iconst 0 d_Mo_layCaught_33 rfl ?_
    refine zi_istore_n [(3, .int 0), (0, .ref a0), (1, .int x1), (2, .int x2)] d_Mo_layCaught_34 (by decide) rfl ?_
    refine zi_lo [(0, .ref a0), (1, .int x1), (2, .int x2), (3, .int 0)] [1, 2, 3, 0] rfl ?_
    exact K_Mo_layCaught_b35 n E S r23 a0 x1 x2 0 M M' hr23 h
theorem K_Mo_layCaught_b23 (n : Nat) (E : zE) (S : zS) (a0 : Nat) (x1 : Int32) (x2 : Int32) (M : zH) (M' : zH)  (h : F_Mo_layCaught_b23 n E S (a0, x1, x2, M) = some M') : zG E Y_Mo_layCaught (none, S, M') 23 [(0, .ref a0), (1, .int x1), (2, .int x2)] [] S M 0 0 := by
  have key : ∀ (k : Nat) (a0 : Nat) (x1 : Int32) (x2 : Int32) (M : zH), zfix (fun r23 s => F_Mo_layCaught_L23 n E S r23 s.1 s.2.1 s.2.2.1 s.2.2.2) k (a0, x1, x2, M) = some M' → zG E Y_Mo_layCaught (none, S, M') 23 [(0, .ref a0), (1, .int x1), (2, .int x2)] [] S M 0 0 := by
    intro k
    induction k with
    | zero => intro a0 x1 x2 M h; cases h
    | succ k ih => intro a0 x1 x2 M h; exact K_Mo_layCaught_L23 n E S _ a0 x1 x2 M M'  (fun a0 x1 x2 M h => ih a0 x1 x2 M h) h
  exact key n a0 x1 x2 M h
theorem K_Mo_layCaught_L2 (n : Nat) (E : zE) (S : zS) (r2 : Nat × Int32 × Int32 × zH → Option (zH)) (a0 : Nat) (x1 : Int32) (x2 : Int32) (M : zH) (M' : zH) (hr2 : ∀ (a0 : Nat) (x1 : Int32) (x2 : Int32) (M : zH), r2 (a0, x1, x2, M) = some M' → zG E Y_Mo_layCaught (none, S, M') 2 [(0, .ref a0), (1, .int x1), (2, .int x2)] [] S M 0 0) (h : F_Mo_layCaught_L2 n E S r2 a0 x1 x2 M = some M') : zG E Y_Mo_layCaught (none, S, M') 2 [(0, .ref a0), (1, .int x1), (2, .int x2)] [] S M 0 0 := by
  unfold F_Mo_layCaught_L2 at h
  refine zi_iload_n 2 d_Mo_layCaught_2 rfl ?_
  refine zi_bipush 24 d_Mo_layCaught_3 rfl ?_
  refine zi_icmp_ge (tgt := 21) d_Mo_layCaught_5 rfl (fun c20 => ?_) (fun c20 => ?_)
  · rw [if_pos c20] at h
    refine zi_iconst 0 d_Mo_layCaught_21 rfl ?_
    refine zi_istore_n [(2, .int 0), (0, .ref a0), (1, .int x1)] d_Mo_layCaught_22 (by decide) rfl ?_
    refine zi_lo [(0, .ref a0), (1, .int x1), (2, .int 0)] [1, 2, 0] rfl ?_
    exact K_Mo_layCaught_b23 n E S a0 x1 0 M M'  h
  · rw [if_neg c20] at h
    refine zi_aload_n 0 d_Mo_layCaught_8 rfl ?_
    obtain ⟨b21, eb21, h⟩ := zbind h
    refine zo_getR 12 zkd_11 42 d_Mo_layCaught_9 eb21 rfl tw_1273 rfl ?_
    refine zi_iload_n 2 d_Mo_layCaught_12 rfl ?_
    refine zi_iconst (-1) d_Mo_layCaught_13 rfl ?_
    obtain ⟨m22, em22, h⟩ := zbind h
    refine zo_iast 15 d_Mo_layCaught_14 em22 rfl ?_
    refine zi_iinc 2 (x2 + 1) [(2, .int (x2 + 1)), (0, .ref a0), (1, .int x1)] d_Mo_layCaught_15 rfl rfl (by decide) rfl ?_
    refine zi_goto (tgt := 2) d_Mo_layCaught_18 rfl ?_
    refine zi_lo [(0, .ref a0), (1, .int x1), (2, .int (x2 + 1))] [1, 2, 0] rfl ?_
    exact hr2 a0 x1 (x2 + 1) m22 h
theorem K_Mo_layCaught_b2 (n : Nat) (E : zE) (S : zS) (a0 : Nat) (x1 : Int32) (x2 : Int32) (M : zH) (M' : zH)  (h : F_Mo_layCaught_b2 n E S (a0, x1, x2, M) = some M') : zG E Y_Mo_layCaught (none, S, M') 2 [(0, .ref a0), (1, .int x1), (2, .int x2)] [] S M 0 0 := by
  have key : ∀ (k : Nat) (a0 : Nat) (x1 : Int32) (x2 : Int32) (M : zH), zfix (fun r2 s => F_Mo_layCaught_L2 n E S r2 s.1 s.2.1 s.2.2.1 s.2.2.2) k (a0, x1, x2, M) = some M' → zG E Y_Mo_layCaught (none, S, M') 2 [(0, .ref a0), (1, .int x1), (2, .int x2)] [] S M 0 0 := by
    intro k
    induction k with
    | zero => intro a0 x1 x2 M h; cases h
    | succ k ih => intro a0 x1 x2 M h; exact K_Mo_layCaught_L2 n E S _ a0 x1 x2 M M'  (fun a0 x1 x2 M h => ih a0 x1 x2 M h) h
  exact key n a0 x1 x2 M h
theorem K_Mo_layCaught (n : Nat) (E : zE) (S : zS) (a0 : Nat) (x1 : Int32) (M : zH) (M' : zH)  (h : F_Mo_layCaught n E S a0 x1 M = some M') : zG E Y_Mo_layCaught (none, S, M') 0 [(0, .ref a0), (1, .int x1)] [] S M 0 0 := by
  unfold F_Mo_layCaught at h
  refine zi_iconst 0 d_Mo_layCaught_0 rfl ?_
  refine zi_istore_n [(2, .int 0), (0, .ref a0), (1, .int x1)] d_Mo_layCaught_1 (by decide) rfl ?_
  refine zi_lo [(0, .ref a0), (1, .int x1), (2, .int 0)] [1, 2, 0] rfl ?_
  exact K_Mo_layCaught_b2 n E S a0 x1 0 M M'  h
theorem C_Mo_layCaught (n : Nat) (E : zE) (S : zS) (a0 : Nat) (x1 : Int32) (M : zH) (M' : zH) (h : F_Mo_layCaught n E S a0 x1 M = some M') : zC E Y_Mo_layCaught [.ref a0, .int x1] S M (none, S, M') :=
  zC.of (Or.inl (show plainName "NightColanderModel" = true by decide)) (Nat.le_of_ble_eq_true rfl) (trivial) (K_Mo_layCaught n E S a0 x1 M M' h)
theorem d_Mo_placed_0 : decode (yB Y_Mo_placed) 0 = .ok (.aload_n 0, 1) := by decide +kernel
theorem d_Mo_placed_1 : decode (yB Y_Mo_placed) 1 = .ok (.iconst 0, 1) := by decide +kernel
theorem d_Mo_placed_2 : decode (yB Y_Mo_placed) 2 = .ok (.putfield 156, 3) := by decide +kernel
theorem d_Mo_placed_5 : decode (yB Y_Mo_placed) 5 = .ok (.iload_n 1, 1) := by decide +kernel
theorem d_Mo_placed_6 : decode (yB Y_Mo_placed) 6 = .ok (.i2l, 1) := by decide +kernel
theorem d_Mo_placed_7 : decode (yB Y_Mo_placed) 7 = .ok (.lconst 1, 1) := by decide +kernel
theorem d_Mo_placed_8 : decode (yB Y_Mo_placed) 8 = .ok (.ldc2_w 237, 3) := by decide +kernel
theorem d_Mo_placed_11 : decode (yB Y_Mo_placed) 11 = .ok (.invokestatic 176, 3) := by decide +kernel
theorem d_Mo_placed_14 : decode (yB Y_Mo_placed) 14 = .ok (.ifCond .eq 19, 3) := by decide +kernel
theorem d_Mo_placed_17 : decode (yB Y_Mo_placed) 17 = .ok (.iload_n 2, 1) := by decide +kernel
theorem d_Mo_placed_18 : decode (yB Y_Mo_placed) 18 = .ok (.i2l, 1) := by decide +kernel
theorem d_Mo_placed_19 : decode (yB Y_Mo_placed) 19 = .ok (.lconst 0, 1) := by decide +kernel
theorem d_Mo_placed_20 : decode (yB Y_Mo_placed) 20 = .ok (.aload_n 0, 1) := by decide +kernel
theorem d_Mo_placed_21 : decode (yB Y_Mo_placed) 21 = .ok (.getfield 13, 3) := by decide +kernel
theorem d_Mo_placed_24 : decode (yB Y_Mo_placed) 24 = .ok (.iconst 0, 1) := by decide +kernel
theorem d_Mo_placed_25 : decode (yB Y_Mo_placed) 25 = .ok (.iaload, 1) := by decide +kernel
theorem d_Mo_placed_26 : decode (yB Y_Mo_placed) 26 = .ok (.i2l, 1) := by decide +kernel
theorem d_Mo_placed_27 : decode (yB Y_Mo_placed) 27 = .ok (.invokestatic 176, 3) := by decide +kernel
theorem d_Mo_placed_30 : decode (yB Y_Mo_placed) 30 = .ok (.ifCond .ne 5, 3) := by decide +kernel
theorem d_Mo_placed_33 : decode (yB Y_Mo_placed) 33 = .ok (.iconst (-1), 1) := by decide +kernel
theorem d_Mo_placed_34 : decode (yB Y_Mo_placed) 34 = .ok (.ireturn, 1) := by decide +kernel
theorem d_Mo_placed_35 : decode (yB Y_Mo_placed) 35 = .ok (.aload_n 0, 1) := by decide +kernel
theorem d_Mo_placed_36 : decode (yB Y_Mo_placed) 36 = .ok (.iload_n 1, 1) := by decide +kernel
theorem d_Mo_placed_37 : decode (yB Y_Mo_placed) 37 = .ok (.invokevirtual 475, 3) := by decide +kernel
theorem d_Mo_placed_40 : decode (yB Y_Mo_placed) 40 = .ok (.aload_n 0, 1) := by decide +kernel
theorem d_Mo_placed_41 : decode (yB Y_Mo_placed) 41 = .ok (.invokevirtual 478, 3) := by decide +kernel
theorem d_Mo_placed_44 : decode (yB Y_Mo_placed) 44 = .ok (.istore_n 3, 1) := by decide +kernel
theorem d_Mo_placed_45 : decode (yB Y_Mo_placed) 45 = .ok (.iload_n 3, 1) := by decide +kernel
theorem d_Mo_placed_46 : decode (yB Y_Mo_placed) 46 = .ok (.iconst (-1), 1) := by decide +kernel
theorem d_Mo_placed_47 : decode (yB Y_Mo_placed) 47 = .ok (.if_icmp .eq 7, 3) := by decide +kernel
theorem d_Mo_placed_50 : decode (yB Y_Mo_placed) 50 = .ok (.iload_n 2, 1) := by decide +kernel
theorem d_Mo_placed_51 : decode (yB Y_Mo_placed) 51 = .ok (.ifCond .ne 7, 3) := by decide +kernel
theorem d_Mo_placed_54 : decode (yB Y_Mo_placed) 54 = .ok (.iload_n 3, 1) := by decide +kernel
theorem d_Mo_placed_55 : decode (yB Y_Mo_placed) 55 = .ok (.goto 11, 3) := by decide +kernel
theorem d_Mo_placed_58 : decode (yB Y_Mo_placed) 58 = .ok (.aload_n 0, 1) := by decide +kernel
theorem d_Mo_placed_59 : decode (yB Y_Mo_placed) 59 = .ok (.getfield 121, 3) := by decide +kernel
theorem d_Mo_placed_62 : decode (yB Y_Mo_placed) 62 = .ok (.iload_n 2, 1) := by decide +kernel
theorem d_Mo_placed_63 : decode (yB Y_Mo_placed) 63 = .ok (.iconst 1, 1) := by decide +kernel
theorem d_Mo_placed_64 : decode (yB Y_Mo_placed) 64 = .ok (.isub, 1) := by decide +kernel
theorem d_Mo_placed_65 : decode (yB Y_Mo_placed) 65 = .ok (.iaload, 1) := by decide +kernel
theorem d_Mo_placed_66 : decode (yB Y_Mo_placed) 66 = .ok (.ireturn, 1) := by decide +kernel
def F_Mo_placed_b54 (n : Nat) (E : zE) (S : zS) (x3 : Int32) (M : zH) : Option (Int32 × zH) :=
  some (x3, M)
def F_Mo_placed (n : Nat) (E : zE) (S : zS) (a0 : Nat) (x1 : Int32) (x2 : Int32) (M : zH) : Option (Int32 × zH) :=
  (zpI S M a0 11 0 0).bind fun m1 =>
  (F_Mo_in n E S x1.toInt64 1 9 m1).bind fun q2 =>
  if q2.1 = true then
    (zgR S a0 11 3).bind fun b4 =>
    (zldI S q2.2 b4 0).bind fun v5 =>
    (F_Mo_in n E S x2.toInt64 0 v5.toInt64 q2.2).bind fun q6 =>
    if q6.1 = true then
      (F_Mo_layCaught n E S a0 x1 q6.2).bind fun q8 =>
      (F_Mo_findPlaced n E S a0 q8).bind fun q9 =>
      if q9.1 = (-1) then
        F_Mo_placed_b54 n E S q9.1 q9.2
      else
        if x2 = 0 then
          F_Mo_placed_b54 n E S q9.1 q9.2
        else
          (zgR S a0 11 44).bind fun b12 =>
          (zldI S q9.2 b12 (x2 - 1)).bind fun v13 =>
          some (v13, q9.2)
    else
      some ((-1), q6.2)
  else
    some ((-1), q2.2)
theorem K_Mo_placed_b54 (n : Nat) (E : zE) (S : zS) (x3 : Int32) (M : zH) (r : Int32) (M' : zH)  (h : F_Mo_placed_b54 n E S x3 M = some (r, M')) : zG E Y_Mo_placed (some (.int r), S, M') 54 [(3, .int x3)] [] S M 0 0 := by
  unfold F_Mo_placed_b54 at h
  refine zi_iload_n 0 d_Mo_placed_54 rfl ?_
  refine zi_goto (tgt := 66) d_Mo_placed_55 rfl ?_
  cases h
  exact zo_ret d_Mo_placed_66 (Nat.le_of_ble_eq_true rfl) (Nat.le_of_ble_eq_true rfl) rfl
theorem K_Mo_placed (n : Nat) (E : zE) (S : zS) (a0 : Nat) (x1 : Int32) (x2 : Int32) (M : zH) (r : Int32) (M' : zH)  (h : F_Mo_placed n E S a0 x1 x2 M = some (r, M')) : zG E Y_Mo_placed (some (.int r), S, M') 0 [(0, .ref a0), (1, .int x1), (2, .int x2)] [] S M 0 0 := by
  unfold F_Mo_placed at h
  refine zi_aload_n 0 d_Mo_placed_0 rfl ?_
  refine zi_iconst 0 d_Mo_placed_1 rfl ?_
  obtain ⟨m1, em1, h⟩ := zbind h
  refine zo_putI 5 zkd_11 0 d_Mo_placed_2 em1 rfl rfl rfl tw_1231 rfl ?_
  refine zi_iload_n 1 d_Mo_placed_5 rfl ?_
  refine zi_i2l d_Mo_placed_6 ?_
  refine zi_lconst 1 d_Mo_placed_7 rfl ?_
  refine zi_ldc2 d_Mo_placed_8 tw_1538 ?_
  obtain ⟨q2, eq2, h⟩ := zbind h
  refine zo_stat (k' := 0) (n' := 0) 14 [.long x1.toInt64, .long 1, .long 9] [] [.int (bI q2.1)] (C_Mo_in n E S x1.toInt64 1 9 m1 q2.1 q2.2 eq2) d_Mo_placed_11 tw_1421 tw_1419 tw_1420 tw_13 dd_Mo_in ⟨Nat.le_of_ble_eq_true rfl, Nat.le_of_ble_eq_true rfl, Nat.le_of_ble_eq_true rfl, Nat.le_of_ble_eq_true rfl⟩ (Nat.le_of_ble_eq_true rfl) rfl rfl rfl rfl ?_
  refine zo_ifeqB d_Mo_placed_14 rfl 17 rfl (fun c3 => ?_) (fun c3 => ?_)
  · rw [if_neg c3] at h
    refine zi_iconst (-1) d_Mo_placed_33 rfl ?_
    cases h
    exact zo_ret d_Mo_placed_34 (Nat.le_of_ble_eq_true rfl) (Nat.le_of_ble_eq_true rfl) rfl
  · rw [if_pos c3] at h
    refine zi_iload_n 2 d_Mo_placed_17 rfl ?_
    refine zi_i2l d_Mo_placed_18 ?_
    refine zi_lconst 0 d_Mo_placed_19 rfl ?_
    refine zi_aload_n 0 d_Mo_placed_20 rfl ?_
    obtain ⟨b4, eb4, h⟩ := zbind h
    refine zo_getR 24 zkd_11 3 d_Mo_placed_21 eb4 rfl tw_1234 rfl ?_
    refine zi_iconst 0 d_Mo_placed_24 rfl ?_
    obtain ⟨v5, ev5, h⟩ := zbind h
    refine zo_iald 26 d_Mo_placed_25 ev5 rfl ?_
    refine zi_i2l d_Mo_placed_26 ?_
    obtain ⟨q6, eq6, h⟩ := zbind h
    refine zo_stat (k' := 0) (n' := 0) 30 [.long x2.toInt64, .long 0, .long v5.toInt64] [] [.int (bI q6.1)] (C_Mo_in n E S x2.toInt64 0 v5.toInt64 q2.2 q6.1 q6.2 eq6) d_Mo_placed_27 tw_1421 tw_1419 tw_1420 tw_13 dd_Mo_in ⟨Nat.le_of_ble_eq_true rfl, Nat.le_of_ble_eq_true rfl, Nat.le_of_ble_eq_true rfl, Nat.le_of_ble_eq_true rfl⟩ (Nat.le_of_ble_eq_true rfl) rfl rfl rfl rfl ?_
    refine zo_ifneB d_Mo_placed_30 rfl 33 rfl (fun c7 => ?_) (fun c7 => ?_)
    · rw [if_pos c7] at h
      refine zi_aload_n 0 d_Mo_placed_35 rfl ?_
      refine zi_iload_n 1 d_Mo_placed_36 rfl ?_
      obtain ⟨q8, eq8, h⟩ := zbind h
      refine zo_virt (k' := 0) (n' := 0) 40 [.int x1] [] [] zkd_11 (zgR_s eb4).1 (C_Mo_layCaught n E S a0 x1 q6.2 q8 eq8) d_Mo_placed_37 tw_1758 tw_1755 tw_1757 ts_88 tw_13 dd_Mo_layCaught ⟨Nat.le_of_ble_eq_true rfl, Nat.le_of_ble_eq_true rfl, Nat.le_of_ble_eq_true rfl, Nat.le_of_ble_eq_true rfl⟩ (Nat.le_of_ble_eq_true rfl) rfl rfl rfl rfl ?_
      refine zi_aload_n 0 d_Mo_placed_40 rfl ?_
      obtain ⟨q9, eq9, h⟩ := zbind h
      refine zo_virt (k' := 0) (n' := 0) 44 [] [] [.int q9.1] zkd_11 (zgR_s eb4).1 (C_Mo_findPlaced n E S a0 q8 q9.1 q9.2 eq9) d_Mo_placed_41 tw_1762 tw_1759 tw_1761 ts_89 tw_13 dd_Mo_findPlaced ⟨Nat.le_of_ble_eq_true rfl, Nat.le_of_ble_eq_true rfl, Nat.le_of_ble_eq_true rfl, Nat.le_of_ble_eq_true rfl⟩ (Nat.le_of_ble_eq_true rfl) rfl rfl rfl rfl ?_
      refine zi_istore_n [(3, .int q9.1), (0, .ref a0), (1, .int x1), (2, .int x2)] d_Mo_placed_44 (by decide) rfl ?_
      refine zi_iload_n 0 d_Mo_placed_45 rfl ?_
      refine zi_iconst (-1) d_Mo_placed_46 rfl ?_
      refine zi_icmp_eq (tgt := 54) d_Mo_placed_47 rfl (fun c10 => ?_) (fun c10 => ?_)
      · rw [if_pos c10] at h
        refine zi_lo [(3, .int q9.1)] [0] rfl ?_
        exact K_Mo_placed_b54 n E S q9.1 q9.2 r M'  h
      · rw [if_neg c10] at h
        refine zi_iload_n 3 d_Mo_placed_50 rfl ?_
        refine zi_if_ne (tgt := 58) d_Mo_placed_51 rfl (fun c11 => ?_) (fun c11 => ?_)
        · rw [if_neg c11] at h
          refine zi_aload_n 1 d_Mo_placed_58 rfl ?_
          obtain ⟨b12, eb12, h⟩ := zbind h
          refine zo_getR 62 zkd_11 44 d_Mo_placed_59 eb12 rfl tw_1275 rfl ?_
          refine zi_iload_n 3 d_Mo_placed_62 rfl ?_
          refine zi_iconst 1 d_Mo_placed_63 rfl ?_
          refine zi_isub d_Mo_placed_64 ?_
          obtain ⟨v13, ev13, h⟩ := zbind h
          refine zo_iald 66 d_Mo_placed_65 ev13 rfl ?_
          cases h
          exact zo_ret d_Mo_placed_66 (Nat.le_of_ble_eq_true rfl) (Nat.le_of_ble_eq_true rfl) rfl
        · rw [if_pos c11] at h
          refine zi_lo [(3, .int q9.1)] [0] rfl ?_
          exact K_Mo_placed_b54 n E S q9.1 q9.2 r M'  h
    · rw [if_neg c7] at h
      refine zi_iconst (-1) d_Mo_placed_33 rfl ?_
      cases h
      exact zo_ret d_Mo_placed_34 (Nat.le_of_ble_eq_true rfl) (Nat.le_of_ble_eq_true rfl) rfl
theorem C_Mo_placed (n : Nat) (E : zE) (S : zS) (a0 : Nat) (x1 : Int32) (x2 : Int32) (M : zH) (r : Int32) (M' : zH) (h : F_Mo_placed n E S a0 x1 x2 M = some (r, M')) : zC E Y_Mo_placed [.ref a0, .int x1, .int x2] S M (some (.int r), S, M') :=
  zC.of (Or.inl (show plainName "NightColanderModel" = true by decide)) (Nat.le_of_ble_eq_true rfl) (trivial) (K_Mo_placed n E S a0 x1 x2 M r M' h)
theorem d_Mo_seen_0 : decode (yB Y_Mo_seen) 0 = .ok (.aload_n 0, 1) := by decide +kernel
theorem d_Mo_seen_1 : decode (yB Y_Mo_seen) 1 = .ok (.iconst 0, 1) := by decide +kernel
theorem d_Mo_seen_2 : decode (yB Y_Mo_seen) 2 = .ok (.putfield 156, 3) := by decide +kernel
theorem d_Mo_seen_5 : decode (yB Y_Mo_seen) 5 = .ok (.iload_n 1, 1) := by decide +kernel
theorem d_Mo_seen_6 : decode (yB Y_Mo_seen) 6 = .ok (.invokestatic 194, 3) := by decide +kernel
theorem d_Mo_seen_9 : decode (yB Y_Mo_seen) 9 = .ok (.ifCond .eq 15, 3) := by decide +kernel
theorem d_Mo_seen_12 : decode (yB Y_Mo_seen) 12 = .ok (.iload_n 2, 1) := by decide +kernel
theorem d_Mo_seen_13 : decode (yB Y_Mo_seen) 13 = .ok (.i2l, 1) := by decide +kernel
theorem d_Mo_seen_14 : decode (yB Y_Mo_seen) 14 = .ok (.lconst 0, 1) := by decide +kernel
theorem d_Mo_seen_15 : decode (yB Y_Mo_seen) 15 = .ok (.ldc2_w 230, 3) := by decide +kernel
theorem d_Mo_seen_18 : decode (yB Y_Mo_seen) 18 = .ok (.invokestatic 176, 3) := by decide +kernel
theorem d_Mo_seen_21 : decode (yB Y_Mo_seen) 21 = .ok (.ifCond .ne 9, 3) := by decide +kernel
theorem d_Mo_seen_24 : decode (yB Y_Mo_seen) 24 = .ok (.aload_n 0, 1) := by decide +kernel
theorem d_Mo_seen_25 : decode (yB Y_Mo_seen) 25 = .ok (.iconst (-1), 1) := by decide +kernel
theorem d_Mo_seen_26 : decode (yB Y_Mo_seen) 26 = .ok (.invokevirtual 165, 3) := by decide +kernel
theorem d_Mo_seen_29 : decode (yB Y_Mo_seen) 29 = .ok (.ireturn, 1) := by decide +kernel
theorem d_Mo_seen_30 : decode (yB Y_Mo_seen) 30 = .ok (.aload_n 0, 1) := by decide +kernel
theorem d_Mo_seen_31 : decode (yB Y_Mo_seen) 31 = .ok (.getfield 13, 3) := by decide +kernel
theorem d_Mo_seen_34 : decode (yB Y_Mo_seen) 34 = .ok (.iconst 1, 1) := by decide +kernel
theorem d_Mo_seen_35 : decode (yB Y_Mo_seen) 35 = .ok (.iaload, 1) := by decide +kernel
theorem d_Mo_seen_36 : decode (yB Y_Mo_seen) 36 = .ok (.istore_n 3, 1) := by decide +kernel
theorem d_Mo_seen_37 : decode (yB Y_Mo_seen) 37 = .ok (.iload_n 3, 1) := by decide +kernel
theorem d_Mo_seen_38 : decode (yB Y_Mo_seen) 38 = .ok (.bipush 6, 2) := by decide +kernel
theorem d_Mo_seen_40 : decode (yB Y_Mo_seen) 40 = .ok (.if_icmp .ne 10, 3) := by decide +kernel
theorem d_Mo_seen_43 : decode (yB Y_Mo_seen) 43 = .ok (.aload_n 0, 1) := by decide +kernel
theorem d_Mo_seen_44 : decode (yB Y_Mo_seen) 44 = .ok (.bipush (-5), 2) := by decide +kernel
theorem d_Mo_seen_46 : decode (yB Y_Mo_seen) 46 = .ok (.invokevirtual 165, 3) := by decide +kernel
theorem d_Mo_seen_49 : decode (yB Y_Mo_seen) 49 = .ok (.ireturn, 1) := by decide +kernel
theorem d_Mo_seen_50 : decode (yB Y_Mo_seen) 50 = .ok (.aload_n 0, 1) := by decide +kernel
theorem d_Mo_seen_51 : decode (yB Y_Mo_seen) 51 = .ok (.getfield 13, 3) := by decide +kernel
theorem d_Mo_seen_54 : decode (yB Y_Mo_seen) 54 = .ok (.bipush 65, 2) := by decide +kernel
theorem d_Mo_seen_56 : decode (yB Y_Mo_seen) 56 = .ok (.iconst 2, 1) := by decide +kernel
theorem d_Mo_seen_57 : decode (yB Y_Mo_seen) 57 = .ok (.iload_n 3, 1) := by decide +kernel
theorem d_Mo_seen_58 : decode (yB Y_Mo_seen) 58 = .ok (.imul, 1) := by decide +kernel
theorem d_Mo_seen_59 : decode (yB Y_Mo_seen) 59 = .ok (.iadd, 1) := by decide +kernel
theorem d_Mo_seen_60 : decode (yB Y_Mo_seen) 60 = .ok (.iload_n 1, 1) := by decide +kernel
theorem d_Mo_seen_61 : decode (yB Y_Mo_seen) 61 = .ok (.iastore, 1) := by decide +kernel
theorem d_Mo_seen_62 : decode (yB Y_Mo_seen) 62 = .ok (.aload_n 0, 1) := by decide +kernel
theorem d_Mo_seen_63 : decode (yB Y_Mo_seen) 63 = .ok (.getfield 13, 3) := by decide +kernel
theorem d_Mo_seen_66 : decode (yB Y_Mo_seen) 66 = .ok (.bipush 65, 2) := by decide +kernel
theorem d_Mo_seen_68 : decode (yB Y_Mo_seen) 68 = .ok (.iconst 2, 1) := by decide +kernel
theorem d_Mo_seen_69 : decode (yB Y_Mo_seen) 69 = .ok (.iload_n 3, 1) := by decide +kernel
theorem d_Mo_seen_70 : decode (yB Y_Mo_seen) 70 = .ok (.imul, 1) := by decide +kernel
theorem d_Mo_seen_71 : decode (yB Y_Mo_seen) 71 = .ok (.iadd, 1) := by decide +kernel
theorem d_Mo_seen_72 : decode (yB Y_Mo_seen) 72 = .ok (.iconst 1, 1) := by decide +kernel
theorem d_Mo_seen_73 : decode (yB Y_Mo_seen) 73 = .ok (.iadd, 1) := by decide +kernel
theorem d_Mo_seen_74 : decode (yB Y_Mo_seen) 74 = .ok (.iload_n 2, 1) := by decide +kernel
theorem d_Mo_seen_75 : decode (yB Y_Mo_seen) 75 = .ok (.iastore, 1) := by decide +kernel
theorem d_Mo_seen_76 : decode (yB Y_Mo_seen) 76 = .ok (.aload_n 0, 1) := by decide +kernel
theorem d_Mo_seen_77 : decode (yB Y_Mo_seen) 77 = .ok (.getfield 13, 3) := by decide +kernel
theorem d_Mo_seen_80 : decode (yB Y_Mo_seen) 80 = .ok (.iconst 1, 1) := by decide +kernel
theorem d_Mo_seen_81 : decode (yB Y_Mo_seen) 81 = .ok (.dup2, 1) := by decide +kernel
theorem d_Mo_seen_82 : decode (yB Y_Mo_seen) 82 = .ok (.iaload, 1) := by decide +kernel
theorem d_Mo_seen_83 : decode (yB Y_Mo_seen) 83 = .ok (.iconst 1, 1) := by decide +kernel
theorem d_Mo_seen_84 : decode (yB Y_Mo_seen) 84 = .ok (.iadd, 1) := by decide +kernel
theorem d_Mo_seen_85 : decode (yB Y_Mo_seen) 85 = .ok (.iastore, 1) := by decide +kernel
theorem d_Mo_seen_86 : decode (yB Y_Mo_seen) 86 = .ok (.aload_n 0, 1) := by decide +kernel
theorem d_Mo_seen_87 : decode (yB Y_Mo_seen) 87 = .ok (.iload_n 3, 1) := by decide +kernel
theorem d_Mo_seen_88 : decode (yB Y_Mo_seen) 88 = .ok (.iconst 1, 1) := by decide +kernel
theorem d_Mo_seen_89 : decode (yB Y_Mo_seen) 89 = .ok (.iadd, 1) := by decide +kernel
theorem d_Mo_seen_90 : decode (yB Y_Mo_seen) 90 = .ok (.invokevirtual 165, 3) := by decide +kernel
theorem d_Mo_seen_93 : decode (yB Y_Mo_seen) 93 = .ok (.ireturn, 1) := by decide +kernel
def F_Mo_seen_b24 (n : Nat) (E : zE) (S : zS) (a0 : Nat) (M : zH) : Option (Int32 × zH) :=
  (zck S a0 11).bind fun u1 =>
  (F_Mo_tell n E S a0 (-1) M).bind fun q2 =>
  some (q2.1, q2.2)
def F_Mo_seen (n : Nat) (E : zE) (S : zS) (a0 : Nat) (x1 : Int32) (x2 : Int32) (M : zH) : Option (Int32 × zH) :=
  (zpI S M a0 11 0 0).bind fun m3 =>
  (F_Mo_isField n E S x1 m3).bind fun q4 =>
  if q4.1 = true then
    (F_Mo_in n E S x2.toInt64 0 400 q4.2).bind fun q6 =>
    if q6.1 = true then
      (zgR S a0 11 3).bind fun b8 =>
      (zldI S q6.2 b8 1).bind fun v9 =>
      if v9 = 6 then
        (F_Mo_tell n E S a0 (-5) q6.2).bind fun q11 =>
        some (q11.1, q11.2)
      else
        (zstI S q6.2 b8 (65 + (2 * v9)) x1).bind fun m12 =>
        (zstI S m12 b8 ((65 + (2 * v9)) + 1) x2).bind fun m13 =>
        (zldI S m13 b8 1).bind fun v14 =>
        (zstI S m13 b8 1 (v14 + 1)).bind fun m15 =>
        (F_Mo_tell n E S a0 (v9 + 1) m15).bind fun q16 =>
        some (q16.1, q16.2)
    else
      F_Mo_seen_b24 n E S a0 q6.2
  else
    F_Mo_seen_b24 n E S a0 q4.2
theorem K_Mo_seen_b24 (n : Nat) (E : zE) (S : zS) (a0 : Nat) (M : zH) (r : Int32) (M' : zH)  (h : F_Mo_seen_b24 n E S a0 M = some (r, M')) : zG E Y_Mo_seen (some (.int r), S, M') 24 [(0, .ref a0)] [] S M 0 0 := by
  unfold F_Mo_seen_b24 at h
  refine zi_aload_n 0 d_Mo_seen_24 rfl ?_
  refine zi_iconst (-1) d_Mo_seen_25 rfl ?_
  obtain ⟨u1, eu1, h⟩ := zbind h
  obtain ⟨q2, eq2, h⟩ := zbind h
  refine zo_virt (k' := 0) (n' := 0) 29 [.int (-1)] [] [.int q2.1] zkd_11 (zck_s eu1) (C_Mo_tell n E S a0 (-1) M q2.1 q2.2 eq2) d_Mo_seen_26 tw_1410 tw_1407 tw_1409 ts_36 tw_13 dd_Mo_tell ⟨Nat.le_of_ble_eq_true rfl, Nat.le_of_ble_eq_true rfl, Nat.le_of_ble_eq_true rfl, Nat.le_of_ble_eq_true rfl⟩ (Nat.le_of_ble_eq_true rfl) rfl rfl rfl rfl ?_
  cases h
  exact zo_ret d_Mo_seen_29 (Nat.le_of_ble_eq_true rfl) (Nat.le_of_ble_eq_true rfl) rfl
theorem K_Mo_seen (n : Nat) (E : zE) (S : zS) (a0 : Nat) (x1 : Int32) (x2 : Int32) (M : zH) (r : Int32) (M' : zH)  (h : F_Mo_seen n E S a0 x1 x2 M = some (r, M')) : zG E Y_Mo_seen (some (.int r), S, M') 0 [(0, .ref a0), (1, .int x1), (2, .int x2)] [] S M 0 0 := by
  unfold F_Mo_seen at h
  refine zi_aload_n 0 d_Mo_seen_0 rfl ?_
  refine zi_iconst 0 d_Mo_seen_1 rfl ?_
  obtain ⟨m3, em3, h⟩ := zbind h
  refine zo_putI 5 zkd_11 0 d_Mo_seen_2 em3 rfl rfl rfl tw_1231 rfl ?_
  refine zi_iload_n 1 d_Mo_seen_5 rfl ?_
  obtain ⟨q4, eq4, h⟩ := zbind h
  refine zo_stat (k' := 0) (n' := 0) 9 [.int x1] [] [.int (bI q4.1)] (C_Mo_isField n E S x1 m3 q4.1 q4.2 eq4) d_Mo_seen_6 tw_1440 tw_1438 tw_1439 tw_13 dd_Mo_isField ⟨Nat.le_of_ble_eq_true rfl, Nat.le_of_ble_eq_true rfl, Nat.le_of_ble_eq_true rfl, Nat.le_of_ble_eq_true rfl⟩ (Nat.le_of_ble_eq_true rfl) rfl rfl rfl rfl ?_
  refine zo_ifeqB d_Mo_seen_9 rfl 12 rfl (fun c5 => ?_) (fun c5 => ?_)
  · rw [if_neg c5] at h
    refine zi_lo [(0, .ref a0)] [0] rfl ?_
    exact K_Mo_seen_b24 n E S a0 q4.2 r M'  h
  · rw [if_pos c5] at h
    refine zi_iload_n 2 d_Mo_seen_12 rfl ?_
    refine zi_i2l d_Mo_seen_13 ?_
    refine zi_lconst 0 d_Mo_seen_14 rfl ?_
    refine zi_ldc2 d_Mo_seen_15 tw_1517 ?_
    obtain ⟨q6, eq6, h⟩ := zbind h
    refine zo_stat (k' := 0) (n' := 0) 21 [.long x2.toInt64, .long 0, .long 400] [] [.int (bI q6.1)] (C_Mo_in n E S x2.toInt64 0 400 q4.2 q6.1 q6.2 eq6) d_Mo_seen_18 tw_1421 tw_1419 tw_1420 tw_13 dd_Mo_in ⟨Nat.le_of_ble_eq_true rfl, Nat.le_of_ble_eq_true rfl, Nat.le_of_ble_eq_true rfl, Nat.le_of_ble_eq_true rfl⟩ (Nat.le_of_ble_eq_true rfl) rfl rfl rfl rfl ?_
    refine zo_ifneB d_Mo_seen_21 rfl 24 rfl (fun c7 => ?_) (fun c7 => ?_)
    · rw [if_pos c7] at h
      refine zi_aload_n 0 d_Mo_seen_30 rfl ?_
      obtain ⟨b8, eb8, h⟩ := zbind h
      refine zo_getR 34 zkd_11 3 d_Mo_seen_31 eb8 rfl tw_1234 rfl ?_
      refine zi_iconst 1 d_Mo_seen_34 rfl ?_
      obtain ⟨v9, ev9, h⟩ := zbind h
      refine zo_iald 36 d_Mo_seen_35 ev9 rfl ?_
      refine zi_istore_n [(3, .int v9), (0, .ref a0), (1, .int x1), (2, .int x2)] d_Mo_seen_36 (by decide) rfl ?_
      refine zi_iload_n 0 d_Mo_seen_37 rfl ?_
      refine zi_bipush 6 d_Mo_seen_38 rfl ?_
      refine zi_icmp_ne (tgt := 50) d_Mo_seen_40 rfl (fun c10 => ?_) (fun c10 => ?_)
      · rw [if_neg c10] at h
        refine zi_aload_n 1 d_Mo_seen_50 rfl ?_
        refine zo_getR 54 zkd_11 3 d_Mo_seen_51 eb8 rfl tw_1234 rfl ?_
        refine zi_bipush 65 d_Mo_seen_54 rfl ?_
        refine zi_iconst 2 d_Mo_seen_56 rfl ?_
        refine zi_iload_n 0 d_Mo_seen_57 rfl ?_
        refine zi_imul d_Mo_seen_58 ?_
        refine zi_iadd d_Mo_seen_59 ?_
        refine zi_iload_n 2 d_Mo_seen_60 rfl ?_
        obtain ⟨m12, em12, h⟩ := zbind h
        refine zo_iast 62 d_Mo_seen_61 em12 rfl ?_
        refine zi_aload_n 1 d_Mo_seen_62 rfl ?_
        refine zo_getR 66 zkd_11 3 d_Mo_seen_63 eb8 rfl tw_1234 rfl ?_
        refine zi_bipush 65 d_Mo_seen_66 rfl ?_
        refine zi_iconst 2 d_Mo_seen_68 rfl ?_
        refine zi_iload_n 0 d_Mo_seen_69 rfl ?_
        refine zi_imul d_Mo_seen_70 ?_
        refine zi_iadd d_Mo_seen_71 ?_
        refine zi_iconst 1 d_Mo_seen_72 rfl ?_
        refine zi_iadd d_Mo_seen_73 ?_
        refine zi_iload_n 3 d_Mo_seen_74 rfl ?_
        obtain ⟨m13, em13, h⟩ := zbind h
        refine zo_iast 76 d_Mo_seen_75 em13 rfl ?_
        refine zi_aload_n 1 d_Mo_seen_76 rfl ?_
        refine zo_getR 80 zkd_11 3 d_Mo_seen_77 eb8 rfl tw_1234 rfl ?_
        refine zi_iconst 1 d_Mo_seen_80 rfl ?_
        refine zi_dup2 d_Mo_seen_81 rfl rfl ?_
        obtain ⟨v14, ev14, h⟩ := zbind h
        refine zo_iald 83 d_Mo_seen_82 ev14 rfl ?_
        refine zi_iconst 1 d_Mo_seen_83 rfl ?_
        refine zi_iadd d_Mo_seen_84 ?_
        obtain ⟨m15, em15, h⟩ := zbind h
        refine zo_iast 86 d_Mo_seen_85 em15 rfl ?_
        refine zi_aload_n 1 d_Mo_seen_86 rfl ?_
        refine zi_iload_n 0 d_Mo_seen_87 rfl ?_
        refine zi_iconst 1 d_Mo_seen_88 rfl ?_
        refine zi_iadd d_Mo_seen_89 ?_
        obtain ⟨q16, eq16, h⟩ := zbind h
        refine zo_virt (k' := 0) (n' := 0) 93 [.int (v9 + 1)] [] [.int q16.1] zkd_11 (zgR_s eb8).1 (C_Mo_tell n E S a0 (v9 + 1) m15 q16.1 q16.2 eq16) d_Mo_seen_90 tw_1410 tw_1407 tw_1409 ts_36 tw_13 dd_Mo_tell ⟨Nat.le_of_ble_eq_true rfl, Nat.le_of_ble_eq_true rfl, Nat.le_of_ble_eq_true rfl, Nat.le_of_ble_eq_true rfl⟩ (Nat.le_of_ble_eq_true rfl) rfl rfl rfl rfl ?_
        cases h
        exact zo_ret d_Mo_seen_93 (Nat.le_of_ble_eq_true rfl) (Nat.le_of_ble_eq_true rfl) rfl
      · rw [if_pos c10] at h
        refine zi_aload_n 1 d_Mo_seen_43 rfl ?_
        refine zi_bipush (-5) d_Mo_seen_44 rfl ?_
        obtain ⟨q11, eq11, h⟩ := zbind h
        refine zo_virt (k' := 0) (n' := 0) 49 [.int (-5)] [] [.int q11.1] zkd_11 (zgR_s eb8).1 (C_Mo_tell n E S a0 (-5) q6.2 q11.1 q11.2 eq11) d_Mo_seen_46 tw_1410 tw_1407 tw_1409 ts_36 tw_13 dd_Mo_tell ⟨Nat.le_of_ble_eq_true rfl, Nat.le_of_ble_eq_true rfl, Nat.le_of_ble_eq_true rfl, Nat.le_of_ble_eq_true rfl⟩ (Nat.le_of_ble_eq_true rfl) rfl rfl rfl rfl ?_
        cases h
        exact zo_ret d_Mo_seen_49 (Nat.le_of_ble_eq_true rfl) (Nat.le_of_ble_eq_true rfl) rfl
    · rw [if_neg c7] at h
      refine zi_lo [(0, .ref a0)] [0] rfl ?_
      exact K_Mo_seen_b24 n E S a0 q6.2 r M'  h
theorem C_Mo_seen (n : Nat) (E : zE) (S : zS) (a0 : Nat) (x1 : Int32) (x2 : Int32) (M : zH) (r : Int32) (M' : zH) (h : F_Mo_seen n E S a0 x1 x2 M = some (r, M')) : zC E Y_Mo_seen [.ref a0, .int x1, .int x2] S M (some (.int r), S, M') :=
  zC.of (Or.inl (show plainName "NightColanderModel" = true by decide)) (Nat.le_of_ble_eq_true rfl) (trivial) (K_Mo_seen n E S a0 x1 x2 M r M' h)
theorem d_Mo_forget_0 : decode (yB Y_Mo_forget) 0 = .ok (.aload_n 0, 1) := by decide +kernel
theorem d_Mo_forget_1 : decode (yB Y_Mo_forget) 1 = .ok (.iconst 0, 1) := by decide +kernel
theorem d_Mo_forget_2 : decode (yB Y_Mo_forget) 2 = .ok (.putfield 156, 3) := by decide +kernel
theorem d_Mo_forget_5 : decode (yB Y_Mo_forget) 5 = .ok (.aload_n 0, 1) := by decide +kernel
theorem d_Mo_forget_6 : decode (yB Y_Mo_forget) 6 = .ok (.getfield 13, 3) := by decide +kernel
theorem d_Mo_forget_9 : decode (yB Y_Mo_forget) 9 = .ok (.iconst 1, 1) := by decide +kernel
theorem d_Mo_forget_10 : decode (yB Y_Mo_forget) 10 = .ok (.iaload, 1) := by decide +kernel
theorem d_Mo_forget_11 : decode (yB Y_Mo_forget) 11 = .ok (.istore_n 1, 1) := by decide +kernel
theorem d_Mo_forget_12 : decode (yB Y_Mo_forget) 12 = .ok (.aload_n 0, 1) := by decide +kernel
theorem d_Mo_forget_13 : decode (yB Y_Mo_forget) 13 = .ok (.getfield 13, 3) := by decide +kernel
theorem d_Mo_forget_16 : decode (yB Y_Mo_forget) 16 = .ok (.iconst 1, 1) := by decide +kernel
theorem d_Mo_forget_17 : decode (yB Y_Mo_forget) 17 = .ok (.iconst 0, 1) := by decide +kernel
theorem d_Mo_forget_18 : decode (yB Y_Mo_forget) 18 = .ok (.iastore, 1) := by decide +kernel
theorem d_Mo_forget_19 : decode (yB Y_Mo_forget) 19 = .ok (.iload_n 1, 1) := by decide +kernel
theorem d_Mo_forget_20 : decode (yB Y_Mo_forget) 20 = .ok (.ireturn, 1) := by decide +kernel
def F_Mo_forget (n : Nat) (E : zE) (S : zS) (a0 : Nat) (M : zH) : Option (Int32 × zH) :=
  (zpI S M a0 11 0 0).bind fun m1 =>
  (zgR S a0 11 3).bind fun b2 =>
  (zldI S m1 b2 1).bind fun v3 =>
  (zstI S m1 b2 1 0).bind fun m4 =>
  some (v3, m4)
theorem K_Mo_forget (n : Nat) (E : zE) (S : zS) (a0 : Nat) (M : zH) (r : Int32) (M' : zH)  (h : F_Mo_forget n E S a0 M = some (r, M')) : zG E Y_Mo_forget (some (.int r), S, M') 0 [(0, .ref a0)] [] S M 0 0 := by
  unfold F_Mo_forget at h
  refine zi_aload_n 0 d_Mo_forget_0 rfl ?_
  refine zi_iconst 0 d_Mo_forget_1 rfl ?_
  obtain ⟨m1, em1, h⟩ := zbind h
  refine zo_putI 5 zkd_11 0 d_Mo_forget_2 em1 rfl rfl rfl tw_1231 rfl ?_
  refine zi_aload_n 0 d_Mo_forget_5 rfl ?_
  obtain ⟨b2, eb2, h⟩ := zbind h
  refine zo_getR 9 zkd_11 3 d_Mo_forget_6 eb2 rfl tw_1234 rfl ?_
  refine zi_iconst 1 d_Mo_forget_9 rfl ?_
  obtain ⟨v3, ev3, h⟩ := zbind h
  refine zo_iald 11 d_Mo_forget_10 ev3 rfl ?_
  refine zi_istore_n [(1, .int v3), (0, .ref a0)] d_Mo_forget_11 (by decide) rfl ?_
  refine zi_aload_n 1 d_Mo_forget_12 rfl ?_
  refine zo_getR 16 zkd_11 3 d_Mo_forget_13 eb2 rfl tw_1234 rfl ?_
  refine zi_iconst 1 d_Mo_forget_16 rfl ?_
  refine zi_iconst 0 d_Mo_forget_17 rfl ?_
  obtain ⟨m4, em4, h⟩ := zbind h
  refine zo_iast 19 d_Mo_forget_18 em4 rfl ?_
  refine zi_iload_n 0 d_Mo_forget_19 rfl ?_
  cases h
  exact zo_ret d_Mo_forget_20 (Nat.le_of_ble_eq_true rfl) (Nat.le_of_ble_eq_true rfl) rfl
theorem C_Mo_forget (n : Nat) (E : zE) (S : zS) (a0 : Nat) (M : zH) (r : Int32) (M' : zH) (h : F_Mo_forget n E S a0 M = some (r, M')) : zC E Y_Mo_forget [.ref a0] S M (some (.int r), S, M') :=
  zC.of (Or.inl (show plainName "NightColanderModel" = true by decide)) (Nat.le_of_ble_eq_true rfl) (trivial) (K_Mo_forget n E S a0 M r M' h)
theorem d_Mo_turnOf_0 : decode (yB Y_Mo_turnOf) 0 = .ok (.iload_n 0, 1) := by decide +kernel
theorem d_Mo_turnOf_1 : decode (yB Y_Mo_turnOf) 1 = .ok (.bipush 9, 2) := by decide +kernel
theorem d_Mo_turnOf_3 : decode (yB Y_Mo_turnOf) 3 = .ok (.iconst 3, 1) := by decide +kernel
theorem d_Mo_turnOf_4 : decode (yB Y_Mo_turnOf) 4 = .ok (.iload_n 1, 1) := by decide +kernel
theorem d_Mo_turnOf_5 : decode (yB Y_Mo_turnOf) 5 = .ok (.imul, 1) := by decide +kernel
theorem d_Mo_turnOf_6 : decode (yB Y_Mo_turnOf) 6 = .ok (.isub, 1) := by decide +kernel
theorem d_Mo_turnOf_7 : decode (yB Y_Mo_turnOf) 7 = .ok (.ishr, 1) := by decide +kernel
theorem d_Mo_turnOf_8 : decode (yB Y_Mo_turnOf) 8 = .ok (.bipush 7, 2) := by decide +kernel
theorem d_Mo_turnOf_10 : decode (yB Y_Mo_turnOf) 10 = .ok (.iand, 1) := by decide +kernel
theorem d_Mo_turnOf_11 : decode (yB Y_Mo_turnOf) 11 = .ok (.ireturn, 1) := by decide +kernel
def F_Mo_turnOf (n : Nat) (E : zE) (S : zS) (x0 : Int32) (x1 : Int32) (M : zH) : Option (Int32 × zH) :=
  some ((x0 >>> ((9 - (3 * x1)) &&& (31 : Int32))) &&& (7 : Int32), M)
theorem K_Mo_turnOf (n : Nat) (E : zE) (S : zS) (x0 : Int32) (x1 : Int32) (M : zH) (r : Int32) (M' : zH)  (h : F_Mo_turnOf n E S x0 x1 M = some (r, M')) : zG E Y_Mo_turnOf (some (.int r), S, M') 0 [(0, .int x0), (1, .int x1)] [] S M 0 0 := by
  unfold F_Mo_turnOf at h
  refine zi_iload_n 0 d_Mo_turnOf_0 rfl ?_
  refine zi_bipush 9 d_Mo_turnOf_1 rfl ?_
  refine zi_iconst 3 d_Mo_turnOf_3 rfl ?_
  refine zi_iload_n 1 d_Mo_turnOf_4 rfl ?_
  refine zi_imul d_Mo_turnOf_5 ?_
  refine zi_isub d_Mo_turnOf_6 ?_
  refine zi_ishr d_Mo_turnOf_7 ?_
  refine zi_bipush 7 d_Mo_turnOf_8 rfl ?_
  refine zi_iand d_Mo_turnOf_10 ?_
  cases h
  exact zo_ret d_Mo_turnOf_11 (Nat.le_of_ble_eq_true rfl) (Nat.le_of_ble_eq_true rfl) rfl
theorem C_Mo_turnOf (n : Nat) (E : zE) (S : zS) (x0 : Int32) (x1 : Int32) (M : zH) (r : Int32) (M' : zH) (h : F_Mo_turnOf n E S x0 x1 M = some (r, M')) : zC E Y_Mo_turnOf [.int x0, .int x1] S M (some (.int r), S, M') :=
  zC.of (Or.inl (show plainName "NightColanderModel" = true by decide)) (Nat.le_of_ble_eq_true rfl) (trivial) (K_Mo_turnOf n E S x0 x1 M r M' h)
theorem d_Mo_fallsOn_0 : decode (yB Y_Mo_fallsOn) 0 = .ok (.iconst 0, 1) := by decide +kernel
theorem d_Mo_fallsOn_1 : decode (yB Y_Mo_fallsOn) 1 = .ok (.istore_n 3, 1) := by decide +kernel
theorem d_Mo_fallsOn_2 : decode (yB Y_Mo_fallsOn) 2 = .ok (.iconst 0, 1) := by decide +kernel
theorem d_Mo_fallsOn_3 : decode (yB Y_Mo_fallsOn) 3 = .ok (.istore 4, 2) := by decide +kernel
theorem d_Mo_fallsOn_5 : decode (yB Y_Mo_fallsOn) 5 = .ok (.iload 4, 2) := by decide +kernel
theorem d_Mo_fallsOn_7 : decode (yB Y_Mo_fallsOn) 7 = .ok (.iconst 4, 1) := by decide +kernel
theorem d_Mo_fallsOn_8 : decode (yB Y_Mo_fallsOn) 8 = .ok (.if_icmp .ge 34, 3) := by decide +kernel
theorem d_Mo_fallsOn_11 : decode (yB Y_Mo_fallsOn) 11 = .ok (.iload_n 3, 1) := by decide +kernel
theorem d_Mo_fallsOn_12 : decode (yB Y_Mo_fallsOn) 12 = .ok (.aload_n 0, 1) := by decide +kernel
theorem d_Mo_fallsOn_13 : decode (yB Y_Mo_fallsOn) 13 = .ok (.getfield 124, 3) := by decide +kernel
theorem d_Mo_fallsOn_16 : decode (yB Y_Mo_fallsOn) 16 = .ok (.bipush 64, 2) := by decide +kernel
theorem d_Mo_fallsOn_18 : decode (yB Y_Mo_fallsOn) 18 = .ok (.iload 4, 2) := by decide +kernel
theorem d_Mo_fallsOn_20 : decode (yB Y_Mo_fallsOn) 20 = .ok (.imul, 1) := by decide +kernel
theorem d_Mo_fallsOn_21 : decode (yB Y_Mo_fallsOn) 21 = .ok (.bipush 8, 2) := by decide +kernel
theorem d_Mo_fallsOn_23 : decode (yB Y_Mo_fallsOn) 23 = .ok (.iload_n 1, 1) := by decide +kernel
theorem d_Mo_fallsOn_24 : decode (yB Y_Mo_fallsOn) 24 = .ok (.iload 4, 2) := by decide +kernel
theorem d_Mo_fallsOn_26 : decode (yB Y_Mo_fallsOn) 26 = .ok (.invokestatic 481, 3) := by decide +kernel
theorem d_Mo_fallsOn_29 : decode (yB Y_Mo_fallsOn) 29 = .ok (.imul, 1) := by decide +kernel
theorem d_Mo_fallsOn_30 : decode (yB Y_Mo_fallsOn) 30 = .ok (.iadd, 1) := by decide +kernel
theorem d_Mo_fallsOn_31 : decode (yB Y_Mo_fallsOn) 31 = .ok (.iload_n 2, 1) := by decide +kernel
theorem d_Mo_fallsOn_32 : decode (yB Y_Mo_fallsOn) 32 = .ok (.iadd, 1) := by decide +kernel
theorem d_Mo_fallsOn_33 : decode (yB Y_Mo_fallsOn) 33 = .ok (.iaload, 1) := by decide +kernel
theorem d_Mo_fallsOn_34 : decode (yB Y_Mo_fallsOn) 34 = .ok (.iadd, 1) := by decide +kernel
theorem d_Mo_fallsOn_35 : decode (yB Y_Mo_fallsOn) 35 = .ok (.istore_n 3, 1) := by decide +kernel
theorem d_Mo_fallsOn_36 : decode (yB Y_Mo_fallsOn) 36 = .ok (.iinc 4 1, 3) := by decide +kernel
theorem d_Mo_fallsOn_39 : decode (yB Y_Mo_fallsOn) 39 = .ok (.goto (-34), 3) := by decide +kernel
theorem d_Mo_fallsOn_42 : decode (yB Y_Mo_fallsOn) 42 = .ok (.iload_n 3, 1) := by decide +kernel
theorem d_Mo_fallsOn_43 : decode (yB Y_Mo_fallsOn) 43 = .ok (.ireturn, 1) := by decide +kernel
def F_Mo_fallsOn_L5 (n : Nat) (E : zE) (S : zS) (r5 : Nat × Int32 × Int32 × Int32 × Int32 × zH → Option (Int32 × zH)) (a0 : Nat) (x1 : Int32) (x2 : Int32) (x3 : Int32) (x4 : Int32) (M : zH) : Option (Int32 × zH) :=
  if 4 ≤ x4 then
    some (x3, M)
  else
    (zgR S a0 11 45).bind fun b2 =>
    (F_Mo_turnOf n E S x1 x4 M).bind fun q3 =>
    (zldI S q3.2 b2 (((64 * x4) + (8 * q3.1)) + x2)).bind fun v4 =>
    r5 (a0, x1, x2, x3 + v4, x4 + 1, q3.2)
def F_Mo_fallsOn_b5 (n : Nat) (E : zE) (S : zS) : Nat × Int32 × Int32 × Int32 × Int32 × zH → Option (Int32 × zH) := zfix (fun r5 s => F_Mo_fallsOn_L5 n E S r5 s.1 s.2.1 s.2.2.1 s.2.2.2.1 s.2.2.2.2.1 s.2.2.2.2.2) n
def F_Mo_fallsOn (n : Nat) (E : zE) (S : zS) (a0 : Nat) (x1 : Int32) (x2 : Int32) (M : zH) : Option (Int32 × zH) :=
  F_Mo_fallsOn_b5 n E S (a0, x1, x2, 0, 0, M)
theorem K_Mo_fallsOn_L5 (n : Nat) (E : zE) (S : zS) (r5 : Nat × Int32 × Int32 × Int32 × Int32 × zH → Option (Int32 × zH)) (a0 : Nat) (x1 : Int32) (x2 : Int32) (x3 : Int32) (x4 : Int32) (M : zH) (r : Int32) (M' : zH) (hr5 : ∀ (a0 : Nat) (x1 : Int32) (x2 : Int32) (x3 : Int32) (x4 : Int32) (M : zH), r5 (a0, x1, x2, x3, x4, M) = some (r, M') → zG E Y_Mo_fallsOn (some (.int r), S, M') 5 [(0, .ref a0), (1, .int x1), (2, .int x2), (3, .int x3), (4, .int x4)] [] S M 0 0) (h : F_Mo_fallsOn_L5 n E S r5 a0 x1 x2 x3 x4 M = some (r, M')) : zG E Y_Mo_fallsOn (some (.int r), S, M') 5 [(0, .ref a0), (1, .int x1), (2, .int x2), (3, .int x3), (4, .int x4)] [] S M 0 0 := by
  unfold F_Mo_fallsOn_L5 at h
  refine zi_iload 4 d_Mo_fallsOn_5 rfl ?_
  refine zi_iconst 4 d_Mo_fallsOn_7 rfl ?_
  refine zi_icmp_ge (tgt := 42) d_Mo_fallsOn_8 rfl (fun c1 => ?_) (fun c1 => ?_)
  · rw [if_pos c1] at h
    refine zi_iload_n 3 d_Mo_fallsOn_42 rfl ?_
    cases h
    exact zo_ret d_Mo_fallsOn_43 (Nat.le_of_ble_eq_true rfl) (Nat.le_of_ble_eq_true rfl) rfl
  · rw [if_neg c1] at h
    refine zi_iload_n 3 d_Mo_fallsOn_11 rfl ?_
    refine zi_aload_n 0 d_Mo_fallsOn_12 rfl ?_
    obtain ⟨b2, eb2, h⟩ := zbind h
    refine zo_getR 16 zkd_11 45 d_Mo_fallsOn_13 eb2 rfl tw_1276 rfl ?_
    refine zi_bipush 64 d_Mo_fallsOn_16 rfl ?_
    refine zi_iload 4 d_Mo_fallsOn_18 rfl ?_
    refine zi_imul d_Mo_fallsOn_20 ?_
    refine zi_bipush 8 d_Mo_fallsOn_21 rfl ?_
    refine zi_iload_n 1 d_Mo_fallsOn_23 rfl ?_
    refine zi_iload 4 d_Mo_fallsOn_24 rfl ?_
    obtain ⟨q3, eq3, h⟩ := zbind h
    refine zo_stat (k' := 0) (n' := 0) 29 [.int x1, .int x4] [.int 8, .int (64 * x4), .ref b2, .int x3] [.int q3.1, .int 8, .int (64 * x4), .ref b2, .int x3] (C_Mo_turnOf n E S x1 x4 M q3.1 q3.2 eq3) d_Mo_fallsOn_26 tw_1793 tw_1791 tw_1792 tw_13 dd_Mo_turnOf ⟨Nat.le_of_ble_eq_true rfl, Nat.le_of_ble_eq_true rfl, Nat.le_of_ble_eq_true rfl, Nat.le_of_ble_eq_true rfl⟩ (Nat.le_of_ble_eq_true rfl) rfl rfl rfl rfl ?_
    refine zi_imul d_Mo_fallsOn_29 ?_
    refine zi_iadd d_Mo_fallsOn_30 ?_
    refine zi_iload_n 2 d_Mo_fallsOn_31 rfl ?_
    refine zi_iadd d_Mo_fallsOn_32 ?_
    obtain ⟨v4, ev4, h⟩ := zbind h
    refine zo_iald 34 d_Mo_fallsOn_33 ev4 rfl ?_
    refine zi_iadd d_Mo_fallsOn_34 ?_
    refine zi_istore_n [(3, .int (x3 + v4)), (0, .ref a0), (1, .int x1), (2, .int x2), (4, .int x4)] d_Mo_fallsOn_35 (by decide) rfl ?_
    refine zi_iinc 4 (x4 + 1) [(4, .int (x4 + 1)), (3, .int (x3 + v4)), (0, .ref a0), (1, .int x1), (2, .int x2)] d_Mo_fallsOn_36 rfl rfl (by decide) rfl ?_
    refine zi_goto (tgt := 5) d_Mo_fallsOn_39 rfl ?_
    refine zi_lo [(0, .ref a0), (1, .int x1), (2, .int x2), (3, .int (x3 + v4)), (4, .int (x4 + 1))] [2, 3, 4, 1, 0] rfl ?_
    exact hr5 a0 x1 x2 (x3 + v4) (x4 + 1) q3.2 h
theorem K_Mo_fallsOn_b5 (n : Nat) (E : zE) (S : zS) (a0 : Nat) (x1 : Int32) (x2 : Int32) (x3 : Int32) (x4 : Int32) (M : zH) (r : Int32) (M' : zH)  (h : F_Mo_fallsOn_b5 n E S (a0, x1, x2, x3, x4, M) = some (r, M')) : zG E Y_Mo_fallsOn (some (.int r), S, M') 5 [(0, .ref a0), (1, .int x1), (2, .int x2), (3, .int x3), (4, .int x4)] [] S M 0 0 := by
  have key : ∀ (k : Nat) (a0 : Nat) (x1 : Int32) (x2 : Int32) (x3 : Int32) (x4 : Int32) (M : zH), zfix (fun r5 s => F_Mo_fallsOn_L5 n E S r5 s.1 s.2.1 s.2.2.1 s.2.2.2.1 s.2.2.2.2.1 s.2.2.2.2.2) k (a0, x1, x2, x3, x4, M) = some (r, M') → zG E Y_Mo_fallsOn (some (.int r), S, M') 5 [(0, .ref a0), (1, .int x1), (2, .int x2), (3, .int x3), (4, .int x4)] [] S M 0 0 := by
    intro k
    induction k with
    | zero => intro a0 x1 x2 x3 x4 M h; cases h
    | succ k ih => intro a0 x1 x2 x3 x4 M h; exact K_Mo_fallsOn_L5 n E S _ a0 x1 x2 x3 x4 M r M'  (fun a0 x1 x2 x3 x4 M h => ih a0 x1 x2 x3 x4 M h) h
  exact key n a0 x1 x2 x3 x4 M h
theorem K_Mo_fallsOn (n : Nat) (E : zE) (S : zS) (a0 : Nat) (x1 : Int32) (x2 : Int32) (M : zH) (r : Int32) (M' : zH)  (h : F_Mo_fallsOn n E S a0 x1 x2 M = some (r, M')) : zG E Y_Mo_fallsOn (some (.int r), S, M') 0 [(0, .ref a0), (1, .int x1), (2, .int x2)] [] S M 0 0 := by
  unfold F_Mo_fallsOn at h
  refine zi_iconst 0 d_Mo_fallsOn_0 rfl ?_
  refine zi_istore_n [(3, .int 0), (0, .ref a0), (1, .int x1), (2, .int x2)] d_Mo_fallsOn_1 (by decide) rfl ?_
  refine zi_iconst 0 d_Mo_fallsOn_2 rfl ?_
  refine zi_istore [(4, .int 0), (3, .int 0), (0, .ref a0), (1, .int x1), (2, .int x2)] d_Mo_fallsOn_3 (by decide) rfl ?_
  refine zi_lo [(0, .ref a0), (1, .int x1), (2, .int x2), (3, .int 0), (4, .int 0)] [2, 3, 4, 1, 0] rfl ?_
  exact K_Mo_fallsOn_b5 n E S a0 x1 x2 0 0 M r M'  h
theorem C_Mo_fallsOn (n : Nat) (E : zE) (S : zS) (a0 : Nat) (x1 : Int32) (x2 : Int32) (M : zH) (r : Int32) (M' : zH) (h : F_Mo_fallsOn n E S a0 x1 x2 M = some (r, M')) : zC E Y_Mo_fallsOn [.ref a0, .int x1, .int x2] S M (some (.int r), S, M') :=
  zC.of (Or.inl (show plainName "NightColanderModel" = true by decide)) (Nat.le_of_ble_eq_true rfl) (trivial) (K_Mo_fallsOn n E S a0 x1 x2 M r M' h)
theorem d_Mo_canBe_0 : decode (yB Y_Mo_canBe) 0 = .ok (.iconst 1, 1) := by decide +kernel
theorem d_Mo_canBe_1 : decode (yB Y_Mo_canBe) 1 = .ok (.istore_n 2, 1) := by decide +kernel
theorem d_Mo_canBe_2 : decode (yB Y_Mo_canBe) 2 = .ok (.iconst 0, 1) := by decide +kernel
theorem d_Mo_canBe_3 : decode (yB Y_Mo_canBe) 3 = .ok (.istore_n 3, 1) := by decide +kernel
theorem d_Mo_canBe_4 : decode (yB Y_Mo_canBe) 4 = .ok (.iload_n 3, 1) := by decide +kernel
theorem d_Mo_canBe_5 : decode (yB Y_Mo_canBe) 5 = .ok (.aload_n 0, 1) := by decide +kernel
theorem d_Mo_canBe_6 : decode (yB Y_Mo_canBe) 6 = .ok (.getfield 13, 3) := by decide +kernel
theorem d_Mo_canBe_9 : decode (yB Y_Mo_canBe) 9 = .ok (.iconst 1, 1) := by decide +kernel
theorem d_Mo_canBe_10 : decode (yB Y_Mo_canBe) 10 = .ok (.iaload, 1) := by decide +kernel
theorem d_Mo_canBe_11 : decode (yB Y_Mo_canBe) 11 = .ok (.if_icmp .ge 51, 3) := by decide +kernel
theorem d_Mo_canBe_14 : decode (yB Y_Mo_canBe) 14 = .ok (.iload_n 2, 1) := by decide +kernel
theorem d_Mo_canBe_15 : decode (yB Y_Mo_canBe) 15 = .ok (.ifCond .eq 47, 3) := by decide +kernel
theorem d_Mo_canBe_18 : decode (yB Y_Mo_canBe) 18 = .ok (.aload_n 0, 1) := by decide +kernel
theorem d_Mo_canBe_19 : decode (yB Y_Mo_canBe) 19 = .ok (.iload_n 1, 1) := by decide +kernel
theorem d_Mo_canBe_20 : decode (yB Y_Mo_canBe) 20 = .ok (.aload_n 0, 1) := by decide +kernel
theorem d_Mo_canBe_21 : decode (yB Y_Mo_canBe) 21 = .ok (.getfield 13, 3) := by decide +kernel
theorem d_Mo_canBe_24 : decode (yB Y_Mo_canBe) 24 = .ok (.bipush 65, 2) := by decide +kernel
theorem d_Mo_canBe_26 : decode (yB Y_Mo_canBe) 26 = .ok (.iconst 2, 1) := by decide +kernel
theorem d_Mo_canBe_27 : decode (yB Y_Mo_canBe) 27 = .ok (.iload_n 3, 1) := by decide +kernel
theorem d_Mo_canBe_28 : decode (yB Y_Mo_canBe) 28 = .ok (.imul, 1) := by decide +kernel
theorem d_Mo_canBe_29 : decode (yB Y_Mo_canBe) 29 = .ok (.iadd, 1) := by decide +kernel
theorem d_Mo_canBe_30 : decode (yB Y_Mo_canBe) 30 = .ok (.iaload, 1) := by decide +kernel
theorem d_Mo_canBe_31 : decode (yB Y_Mo_canBe) 31 = .ok (.invokevirtual 484, 3) := by decide +kernel
theorem d_Mo_canBe_34 : decode (yB Y_Mo_canBe) 34 = .ok (.aload_n 0, 1) := by decide +kernel
theorem d_Mo_canBe_35 : decode (yB Y_Mo_canBe) 35 = .ok (.getfield 13, 3) := by decide +kernel
theorem d_Mo_canBe_38 : decode (yB Y_Mo_canBe) 38 = .ok (.bipush 65, 2) := by decide +kernel
theorem d_Mo_canBe_40 : decode (yB Y_Mo_canBe) 40 = .ok (.iconst 2, 1) := by decide +kernel
theorem d_Mo_canBe_41 : decode (yB Y_Mo_canBe) 41 = .ok (.iload_n 3, 1) := by decide +kernel
theorem d_Mo_canBe_42 : decode (yB Y_Mo_canBe) 42 = .ok (.imul, 1) := by decide +kernel
theorem d_Mo_canBe_43 : decode (yB Y_Mo_canBe) 43 = .ok (.iadd, 1) := by decide +kernel
theorem d_Mo_canBe_44 : decode (yB Y_Mo_canBe) 44 = .ok (.iconst 1, 1) := by decide +kernel
theorem d_Mo_canBe_45 : decode (yB Y_Mo_canBe) 45 = .ok (.iadd, 1) := by decide +kernel
theorem d_Mo_canBe_46 : decode (yB Y_Mo_canBe) 46 = .ok (.iaload, 1) := by decide +kernel
theorem d_Mo_canBe_47 : decode (yB Y_Mo_canBe) 47 = .ok (.if_icmp .ne 7, 3) := by decide +kernel
theorem d_Mo_canBe_50 : decode (yB Y_Mo_canBe) 50 = .ok (.iconst 1, 1) := by decide +kernel
theorem d_Mo_canBe_51 : decode (yB Y_Mo_canBe) 51 = .ok (.goto 4, 3) := by decide +kernel
theorem d_Mo_canBe_54 : decode (yB Y_Mo_canBe) 54 = .ok (.iconst 0, 1) := by decide +kernel
theorem d_Mo_canBe_55 : decode (yB Y_Mo_canBe) 55 = .ok (.istore_n 2, 1) := by decide +kernel
theorem d_Mo_canBe_56 : decode (yB Y_Mo_canBe) 56 = .ok (.iinc 3 1, 3) := by decide +kernel
theorem d_Mo_canBe_59 : decode (yB Y_Mo_canBe) 59 = .ok (.goto (-55), 3) := by decide +kernel
theorem d_Mo_canBe_62 : decode (yB Y_Mo_canBe) 62 = .ok (.iload_n 2, 1) := by decide +kernel
theorem d_Mo_canBe_63 : decode (yB Y_Mo_canBe) 63 = .ok (.ireturn, 1) := by decide +kernel
def F_Mo_canBe_b55 (n : Nat) (E : zE) (S : zS) (r4 : Nat × Int32 × Int32 × Int32 × zH → Option (Bool × zH)) (a0 : Nat) (x1 : Int32) (x3 : Int32) (s0 : Int32) (M : zH) : Option (Bool × zH) :=
  r4 (a0, x1, s0, x3 + 1, M)
def F_Mo_canBe_L4 (n : Nat) (E : zE) (S : zS) (r4 : Nat × Int32 × Int32 × Int32 × zH → Option (Bool × zH)) (a0 : Nat) (x1 : Int32) (x2 : Int32) (x3 : Int32) (M : zH) : Option (Bool × zH) :=
  (zgR S a0 11 3).bind fun b1 =>
  (zldI S M b1 1).bind fun v2 =>
  if v2 ≤ x3 then
    (zbl x2).bind fun z4 =>
    some (z4, M)
  else
    if x2 = 0 then
      (zbl x2).bind fun z6 =>
      some (z6, M)
    else
      (zldI S M b1 (65 + (2 * x3))).bind fun v7 =>
      (F_Mo_fallsOn n E S a0 x1 v7 M).bind fun q8 =>
      (zldI S q8.2 b1 ((65 + (2 * x3)) + 1)).bind fun v9 =>
      if q8.1 = v9 then
        F_Mo_canBe_b55 n E S r4 a0 x1 x3 1 q8.2
      else
        F_Mo_canBe_b55 n E S r4 a0 x1 x3 0 q8.2
def F_Mo_canBe_b4 (n : Nat) (E : zE) (S : zS) : Nat × Int32 × Int32 × Int32 × zH → Option (Bool × zH) := zfix (fun r4 s => F_Mo_canBe_L4 n E S r4 s.1 s.2.1 s.2.2.1 s.2.2.2.1 s.2.2.2.2) n
def F_Mo_canBe (n : Nat) (E : zE) (S : zS) (a0 : Nat) (x1 : Int32) (M : zH) : Option (Bool × zH) :=
  F_Mo_canBe_b4 n E S (a0, x1, 1, 0, M)
theorem K_Mo_canBe_b55 (n : Nat) (E : zE) (S : zS) (r4 : Nat × Int32 × Int32 × Int32 × zH → Option (Bool × zH)) (a0 : Nat) (x1 : Int32) (x3 : Int32) (s0 : Int32) (M : zH) (r : Bool) (M' : zH) (hr4 : ∀ (a0 : Nat) (x1 : Int32) (x2 : Int32) (x3 : Int32) (M : zH), r4 (a0, x1, x2, x3, M) = some (r, M') → zG E Y_Mo_canBe (some (.int (bI r)), S, M') 4 [(0, .ref a0), (1, .int x1), (2, .int x2), (3, .int x3)] [] S M 0 0) (h : F_Mo_canBe_b55 n E S r4 a0 x1 x3 s0 M = some (r, M')) : zG E Y_Mo_canBe (some (.int (bI r)), S, M') 55 [(0, .ref a0), (1, .int x1), (3, .int x3)] [.int s0] S M 0 0 := by
  unfold F_Mo_canBe_b55 at h
  refine zi_istore_n [(2, .int s0), (0, .ref a0), (1, .int x1), (3, .int x3)] d_Mo_canBe_55 (by decide) rfl ?_
  refine zi_iinc 3 (x3 + 1) [(3, .int (x3 + 1)), (2, .int s0), (0, .ref a0), (1, .int x1)] d_Mo_canBe_56 rfl rfl (by decide) rfl ?_
  refine zi_goto (tgt := 4) d_Mo_canBe_59 rfl ?_
  refine zi_lo [(0, .ref a0), (1, .int x1), (2, .int s0), (3, .int (x3 + 1))] [2, 3, 1, 0] rfl ?_
  exact hr4 a0 x1 s0 (x3 + 1) M h
theorem K_Mo_canBe_L4 (n : Nat) (E : zE) (S : zS) (r4 : Nat × Int32 × Int32 × Int32 × zH → Option (Bool × zH)) (a0 : Nat) (x1 : Int32) (x2 : Int32) (x3 : Int32) (M : zH) (r : Bool) (M' : zH) (hr4 : ∀ (a0 : Nat) (x1 : Int32) (x2 : Int32) (x3 : Int32) (M : zH), r4 (a0, x1, x2, x3, M) = some (r, M') → zG E Y_Mo_canBe (some (.int (bI r)), S, M') 4 [(0, .ref a0), (1, .int x1), (2, .int x2), (3, .int x3)] [] S M 0 0) (h : F_Mo_canBe_L4 n E S r4 a0 x1 x2 x3 M = some (r, M')) : zG E Y_Mo_canBe (some (.int (bI r)), S, M') 4 [(0, .ref a0), (1, .int x1), (2, .int x2), (3, .int x3)] [] S M 0 0 := by
  unfold F_Mo_canBe_L4 at h
  refine zi_iload_n 3 d_Mo_canBe_4 rfl ?_
  refine zi_aload_n 0 d_Mo_canBe_5 rfl ?_
  obtain ⟨b1, eb1, h⟩ := zbind h
  refine zo_getR 9 zkd_11 3 d_Mo_canBe_6 eb1 rfl tw_1234 rfl ?_
  refine zi_iconst 1 d_Mo_canBe_9 rfl ?_
  obtain ⟨v2, ev2, h⟩ := zbind h
  refine zo_iald 11 d_Mo_canBe_10 ev2 rfl ?_
  refine zi_icmp_ge (tgt := 62) d_Mo_canBe_11 rfl (fun c3 => ?_) (fun c3 => ?_)
  · rw [if_pos c3] at h
    refine zi_iload_n 2 d_Mo_canBe_62 rfl ?_
    obtain ⟨z4, ez4, h⟩ := zbind h
    cases h
    exact zo_retB d_Mo_canBe_63 (Nat.le_of_ble_eq_true rfl) (Nat.le_of_ble_eq_true rfl) (zbl_s ez4)
  · rw [if_neg c3] at h
    refine zi_iload_n 2 d_Mo_canBe_14 rfl ?_
    refine zi_if_eq (tgt := 62) d_Mo_canBe_15 rfl (fun c5 => ?_) (fun c5 => ?_)
    · rw [if_pos c5] at h
      refine zi_iload_n 2 d_Mo_canBe_62 rfl ?_
      obtain ⟨z6, ez6, h⟩ := zbind h
      cases h
      exact zo_retB d_Mo_canBe_63 (Nat.le_of_ble_eq_true rfl) (Nat.le_of_ble_eq_true rfl) (zbl_s ez6)
    · rw [if_neg c5] at h
      refine zi_aload_n 0 d_Mo_canBe_18 rfl ?_
      refine zi_iload_n 1 d_Mo_canBe_19 rfl ?_
      refine zi_aload_n 0 d_Mo_canBe_20 rfl ?_
      refine zo_getR 24 zkd_11 3 d_Mo_canBe_21 eb1 rfl tw_1234 rfl ?_
      refine zi_bipush 65 d_Mo_canBe_24 rfl ?_
      refine zi_iconst 2 d_Mo_canBe_26 rfl ?_
      refine zi_iload_n 3 d_Mo_canBe_27 rfl ?_
      refine zi_imul d_Mo_canBe_28 ?_
      refine zi_iadd d_Mo_canBe_29 ?_
      obtain ⟨v7, ev7, h⟩ := zbind h
      refine zo_iald 31 d_Mo_canBe_30 ev7 rfl ?_
      obtain ⟨q8, eq8, h⟩ := zbind h
      refine zo_virt (k' := 0) (n' := 0) 34 [.int x1, .int v7] [] [.int q8.1] zkd_11 (zgR_s eb1).1 (C_Mo_fallsOn n E S a0 x1 v7 M q8.1 q8.2 eq8) d_Mo_canBe_31 tw_1790 tw_1787 tw_1789 ts_93 tw_13 dd_Mo_fallsOn ⟨Nat.le_of_ble_eq_true rfl, Nat.le_of_ble_eq_true rfl, Nat.le_of_ble_eq_true rfl, Nat.le_of_ble_eq_true rfl⟩ (Nat.le_of_ble_eq_true rfl) rfl rfl rfl rfl ?_
      refine zi_aload_n 0 d_Mo_canBe_34 rfl ?_
      refine zo_getR 38 zkd_11 3 d_Mo_canBe_35 eb1 rfl tw_1234 rfl ?_
      refine zi_bipush 65 d_Mo_canBe_38 rfl ?_
      refine zi_iconst 2 d_Mo_canBe_40 rfl ?_
      refine zi_iload_n 3 d_Mo_canBe_41 rfl ?_
      refine zi_imul d_Mo_canBe_42 ?_
      refine zi_iadd d_Mo_canBe_43 ?_
      refine zi_iconst 1 d_Mo_canBe_44 rfl ?_
      refine zi_iadd d_Mo_canBe_45 ?_
      obtain ⟨v9, ev9, h⟩ := zbind h
      refine zo_iald 47 d_Mo_canBe_46 ev9 rfl ?_
      refine zi_icmp_ne (tgt := 54) d_Mo_canBe_47 rfl (fun c10 => ?_) (fun c10 => ?_)
      · rw [if_neg c10] at h
        refine zi_iconst 0 d_Mo_canBe_54 rfl ?_
        refine zi_lo [(0, .ref a0), (1, .int x1), (3, .int x3)] [0, 1, 3] rfl ?_
        exact K_Mo_canBe_b55 n E S r4 a0 x1 x3 0 q8.2 r M' hr4 h
      · rw [if_pos c10] at h
        refine zi_iconst 1 d_Mo_canBe_50 rfl ?_
        refine zi_goto (tgt := 55) d_Mo_canBe_51 rfl ?_
        refine zi_lo [(0, .ref a0), (1, .int x1), (3, .int x3)] [0, 1, 3] rfl ?_
        exact K_Mo_canBe_b55 n E S r4 a0 x1 x3 1 q8.2 r M' hr4 h
theorem K_Mo_canBe_b4 (n : Nat) (E : zE) (S : zS) (a0 : Nat) (x1 : Int32) (x2 : Int32) (x3 : Int32) (M : zH) (r : Bool) (M' : zH)  (h : F_Mo_canBe_b4 n E S (a0, x1, x2, x3, M) = some (r, M')) : zG E Y_Mo_canBe (some (.int (bI r)), S, M') 4 [(0, .ref a0), (1, .int x1), (2, .int x2), (3, .int x3)] [] S M 0 0 := by
  have key : ∀ (k : Nat) (a0 : Nat) (x1 : Int32) (x2 : Int32) (x3 : Int32) (M : zH), zfix (fun r4 s => F_Mo_canBe_L4 n E S r4 s.1 s.2.1 s.2.2.1 s.2.2.2.1 s.2.2.2.2) k (a0, x1, x2, x3, M) = some (r, M') → zG E Y_Mo_canBe (some (.int (bI r)), S, M') 4 [(0, .ref a0), (1, .int x1), (2, .int x2), (3, .int x3)] [] S M 0 0 := by
    intro k
    induction k with
    | zero => intro a0 x1 x2 x3 M h; cases h
    | succ k ih => intro a0 x1 x2 x3 M h; exact K_Mo_canBe_L4 n E S _ a0 x1 x2 x3 M r M'  (fun a0 x1 x2 x3 M h => ih a0 x1 x2 x3 M h) h
  exact key n a0 x1 x2 x3 M h
theorem K_Mo_canBe (n : Nat) (E : zE) (S : zS) (a0 : Nat) (x1 : Int32) (M : zH) (r : Bool) (M' : zH)  (h : F_Mo_canBe n E S a0 x1 M = some (r, M')) : zG E Y_Mo_canBe (some (.int (bI r)), S, M') 0 [(0, .ref a0), (1, .int x1)] [] S M 0 0 := by
  unfold F_Mo_canBe at h
  refine zi_iconst 1 d_Mo_canBe_0 rfl ?_
  refine zi_istore_n [(2, .int 1), (0, .ref a0), (1, .int x1)] d_Mo_canBe_1 (by decide) rfl ?_
  refine zi_iconst 0 d_Mo_canBe_2 rfl ?_
  refine zi_istore_n [(3, .int 0), (2, .int 1), (0, .ref a0), (1, .int x1)] d_Mo_canBe_3 (by decide) rfl ?_
  refine zi_lo [(0, .ref a0), (1, .int x1), (2, .int 1), (3, .int 0)] [2, 3, 1, 0] rfl ?_
  exact K_Mo_canBe_b4 n E S a0 x1 1 0 M r M'  h
theorem C_Mo_canBe (n : Nat) (E : zE) (S : zS) (a0 : Nat) (x1 : Int32) (M : zH) (r : Bool) (M' : zH) (h : F_Mo_canBe n E S a0 x1 M = some (r, M')) : zC E Y_Mo_canBe [.ref a0, .int x1] S M (some (.int (bI r)), S, M') :=
  zC.of (Or.inl (show plainName "NightColanderModel" = true by decide)) (Nat.le_of_ble_eq_true rfl) (bI_nar r) (K_Mo_canBe n E S a0 x1 M r M' h)
