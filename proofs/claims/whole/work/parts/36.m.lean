/-! METHODS (printed by gen/build.py): Mo_binds Mo_inner Mo_isCompared Mo_push Mo_emit Mo_settle Mo_behindSum Mo_behindTest Mo_leaf Mo_number -/
theorem d_Mo_binds_0 : decode (yB Y_Mo_binds) 0 = .ok (.iload_n 0, 1) := by decide +kernel
theorem d_Mo_binds_1 : decode (yB Y_Mo_binds) 1 = .ok (.bipush 31, 2) := by decide +kernel
theorem d_Mo_binds_3 : decode (yB Y_Mo_binds) 3 = .ok (.if_icmp .lt 7, 3) := by decide +kernel
theorem d_Mo_binds_6 : decode (yB Y_Mo_binds) 6 = .ok (.iconst 0, 1) := by decide +kernel
theorem d_Mo_binds_7 : decode (yB Y_Mo_binds) 7 = .ok (.goto 55, 3) := by decide +kernel
theorem d_Mo_binds_10 : decode (yB Y_Mo_binds) 10 = .ok (.iload_n 0, 1) := by decide +kernel
theorem d_Mo_binds_11 : decode (yB Y_Mo_binds) 11 = .ok (.bipush 30, 2) := by decide +kernel
theorem d_Mo_binds_13 : decode (yB Y_Mo_binds) 13 = .ok (.if_icmp .ne 7, 3) := by decide +kernel
theorem d_Mo_binds_16 : decode (yB Y_Mo_binds) 16 = .ok (.iconst 1, 1) := by decide +kernel
theorem d_Mo_binds_17 : decode (yB Y_Mo_binds) 17 = .ok (.goto 45, 3) := by decide +kernel
theorem d_Mo_binds_20 : decode (yB Y_Mo_binds) 20 = .ok (.iload_n 0, 1) := by decide +kernel
theorem d_Mo_binds_21 : decode (yB Y_Mo_binds) 21 = .ok (.bipush 29, 2) := by decide +kernel
theorem d_Mo_binds_23 : decode (yB Y_Mo_binds) 23 = .ok (.if_icmp .ne 7, 3) := by decide +kernel
theorem d_Mo_binds_26 : decode (yB Y_Mo_binds) 26 = .ok (.iconst 2, 1) := by decide +kernel
theorem d_Mo_binds_27 : decode (yB Y_Mo_binds) 27 = .ok (.goto 35, 3) := by decide +kernel
theorem d_Mo_binds_30 : decode (yB Y_Mo_binds) 30 = .ok (.iload_n 0, 1) := by decide +kernel
theorem d_Mo_binds_31 : decode (yB Y_Mo_binds) 31 = .ok (.bipush 28, 2) := by decide +kernel
theorem d_Mo_binds_33 : decode (yB Y_Mo_binds) 33 = .ok (.if_icmp .ne 7, 3) := by decide +kernel
theorem d_Mo_binds_36 : decode (yB Y_Mo_binds) 36 = .ok (.iconst 3, 1) := by decide +kernel
theorem d_Mo_binds_37 : decode (yB Y_Mo_binds) 37 = .ok (.goto 25, 3) := by decide +kernel
theorem d_Mo_binds_40 : decode (yB Y_Mo_binds) 40 = .ok (.iload_n 0, 1) := by decide +kernel
theorem d_Mo_binds_41 : decode (yB Y_Mo_binds) 41 = .ok (.bipush 25, 2) := by decide +kernel
theorem d_Mo_binds_43 : decode (yB Y_Mo_binds) 43 = .ok (.if_icmp .lt 7, 3) := by decide +kernel
theorem d_Mo_binds_46 : decode (yB Y_Mo_binds) 46 = .ok (.iconst 4, 1) := by decide +kernel
theorem d_Mo_binds_47 : decode (yB Y_Mo_binds) 47 = .ok (.goto 15, 3) := by decide +kernel
theorem d_Mo_binds_50 : decode (yB Y_Mo_binds) 50 = .ok (.iload_n 0, 1) := by decide +kernel
theorem d_Mo_binds_51 : decode (yB Y_Mo_binds) 51 = .ok (.bipush 22, 2) := by decide +kernel
theorem d_Mo_binds_53 : decode (yB Y_Mo_binds) 53 = .ok (.if_icmp .lt 8, 3) := by decide +kernel
theorem d_Mo_binds_56 : decode (yB Y_Mo_binds) 56 = .ok (.bipush 6, 2) := by decide +kernel
theorem d_Mo_binds_58 : decode (yB Y_Mo_binds) 58 = .ok (.goto 4, 3) := by decide +kernel
theorem d_Mo_binds_61 : decode (yB Y_Mo_binds) 61 = .ok (.iconst 5, 1) := by decide +kernel
theorem d_Mo_binds_62 : decode (yB Y_Mo_binds) 62 = .ok (.ireturn, 1) := by decide +kernel
def F_Mo_binds (n : Nat) (E : zE) (S : zS) (x0 : Int32) (M : zH) : Option (Int32 × zH) :=
  if x0 < 31 then
    if x0 = 30 then
      some (1, M)
    else
      if x0 = 29 then
        some (2, M)
      else
        if x0 = 28 then
          some (3, M)
        else
          if x0 < 25 then
            if x0 < 22 then
              some (5, M)
            else
              some (6, M)
          else
            some (4, M)
  else
    some (0, M)
theorem K_Mo_binds (n : Nat) (E : zE) (S : zS) (x0 : Int32) (M : zH) (r : Int32) (M' : zH)  (h : F_Mo_binds n E S x0 M = some (r, M')) : zG E Y_Mo_binds (some (.int r), S, M') 0 [(0, .int x0)] [] S M 0 0 := by
  unfold F_Mo_binds at h
  refine zi_iload_n 0 d_Mo_binds_0 rfl ?_
  refine zi_bipush 31 d_Mo_binds_1 rfl ?_
  refine zi_icmp_lt (tgt := 10) d_Mo_binds_3 rfl (fun c1 => ?_) (fun c1 => ?_)
  · rw [if_pos c1] at h
    refine zi_iload_n 0 d_Mo_binds_10 rfl ?_
    refine zi_bipush 30 d_Mo_binds_11 rfl ?_
    refine zi_icmp_ne (tgt := 20) d_Mo_binds_13 rfl (fun c2 => ?_) (fun c2 => ?_)
    · rw [if_neg c2] at h
      refine zi_iload_n 0 d_Mo_binds_20 rfl ?_
      refine zi_bipush 29 d_Mo_binds_21 rfl ?_
      refine zi_icmp_ne (tgt := 30) d_Mo_binds_23 rfl (fun c3 => ?_) (fun c3 => ?_)
      · rw [if_neg c3] at h
        refine zi_iload_n 0 d_Mo_binds_30 rfl ?_
        refine zi_bipush 28 d_Mo_binds_31 rfl ?_
        refine zi_icmp_ne (tgt := 40) d_Mo_binds_33 rfl (fun c4 => ?_) (fun c4 => ?_)
        · rw [if_neg c4] at h
          refine zi_iload_n 0 d_Mo_binds_40 rfl ?_
          refine zi_bipush 25 d_Mo_binds_41 rfl ?_
          refine zi_icmp_lt (tgt := 50) d_Mo_binds_43 rfl (fun c5 => ?_) (fun c5 => ?_)
          · rw [if_pos c5] at h
            refine zi_iload_n 0 d_Mo_binds_50 rfl ?_
            refine zi_bipush 22 d_Mo_binds_51 rfl ?_
            refine zi_icmp_lt (tgt := 61) d_Mo_binds_53 rfl (fun c6 => ?_) (fun c6 => ?_)
            · rw [if_pos c6] at h
              refine zi_iconst 5 d_Mo_binds_61 rfl ?_
              cases h
              exact zo_ret d_Mo_binds_62 (Nat.le_of_ble_eq_true rfl) (Nat.le_of_ble_eq_true rfl) rfl
            · rw [if_neg c6] at h
              refine zi_bipush 6 d_Mo_binds_56 rfl ?_
              refine zi_goto (tgt := 62) d_Mo_binds_58 rfl ?_
              cases h
              exact zo_ret d_Mo_binds_62 (Nat.le_of_ble_eq_true rfl) (Nat.le_of_ble_eq_true rfl) rfl
          · rw [if_neg c5] at h
            refine zi_iconst 4 d_Mo_binds_46 rfl ?_
            refine zi_goto (tgt := 62) d_Mo_binds_47 rfl ?_
            cases h
            exact zo_ret d_Mo_binds_62 (Nat.le_of_ble_eq_true rfl) (Nat.le_of_ble_eq_true rfl) rfl
        · rw [if_pos c4] at h
          refine zi_iconst 3 d_Mo_binds_36 rfl ?_
          refine zi_goto (tgt := 62) d_Mo_binds_37 rfl ?_
          cases h
          exact zo_ret d_Mo_binds_62 (Nat.le_of_ble_eq_true rfl) (Nat.le_of_ble_eq_true rfl) rfl
      · rw [if_pos c3] at h
        refine zi_iconst 2 d_Mo_binds_26 rfl ?_
        refine zi_goto (tgt := 62) d_Mo_binds_27 rfl ?_
        cases h
        exact zo_ret d_Mo_binds_62 (Nat.le_of_ble_eq_true rfl) (Nat.le_of_ble_eq_true rfl) rfl
    · rw [if_pos c2] at h
      refine zi_iconst 1 d_Mo_binds_16 rfl ?_
      refine zi_goto (tgt := 62) d_Mo_binds_17 rfl ?_
      cases h
      exact zo_ret d_Mo_binds_62 (Nat.le_of_ble_eq_true rfl) (Nat.le_of_ble_eq_true rfl) rfl
  · rw [if_neg c1] at h
    refine zi_iconst 0 d_Mo_binds_6 rfl ?_
    refine zi_goto (tgt := 62) d_Mo_binds_7 rfl ?_
    cases h
    exact zo_ret d_Mo_binds_62 (Nat.le_of_ble_eq_true rfl) (Nat.le_of_ble_eq_true rfl) rfl
theorem C_Mo_binds (n : Nat) (E : zE) (S : zS) (x0 : Int32) (M : zH) (r : Int32) (M' : zH) (h : F_Mo_binds n E S x0 M = some (r, M')) : zC E Y_Mo_binds [.int x0] S M (some (.int r), S, M') :=
  zC.of (Or.inl (show plainName "NightColanderModel" = true by decide)) (Nat.le_of_ble_eq_true rfl) (trivial) (K_Mo_binds n E S x0 M r M' h)
theorem d_Mo_inner_0 : decode (yB Y_Mo_inner) 0 = .ok (.iconst (-1), 1) := by decide +kernel
theorem d_Mo_inner_1 : decode (yB Y_Mo_inner) 1 = .ok (.istore_n 1, 1) := by decide +kernel
theorem d_Mo_inner_2 : decode (yB Y_Mo_inner) 2 = .ok (.iconst 0, 1) := by decide +kernel
theorem d_Mo_inner_3 : decode (yB Y_Mo_inner) 3 = .ok (.istore_n 2, 1) := by decide +kernel
theorem d_Mo_inner_4 : decode (yB Y_Mo_inner) 4 = .ok (.iload_n 2, 1) := by decide +kernel
theorem d_Mo_inner_5 : decode (yB Y_Mo_inner) 5 = .ok (.aload_n 0, 1) := by decide +kernel
theorem d_Mo_inner_6 : decode (yB Y_Mo_inner) 6 = .ok (.getfield 294, 3) := by decide +kernel
theorem d_Mo_inner_9 : decode (yB Y_Mo_inner) 9 = .ok (.if_icmp .ge 31, 3) := by decide +kernel
theorem d_Mo_inner_12 : decode (yB Y_Mo_inner) 12 = .ok (.aload_n 0, 1) := by decide +kernel
theorem d_Mo_inner_13 : decode (yB Y_Mo_inner) 13 = .ok (.getfield 51, 3) := by decide +kernel
theorem d_Mo_inner_16 : decode (yB Y_Mo_inner) 16 = .ok (.iload_n 2, 1) := by decide +kernel
theorem d_Mo_inner_17 : decode (yB Y_Mo_inner) 17 = .ok (.iaload, 1) := by decide +kernel
theorem d_Mo_inner_18 : decode (yB Y_Mo_inner) 18 = .ok (.bipush 31, 2) := by decide +kernel
theorem d_Mo_inner_20 : decode (yB Y_Mo_inner) 20 = .ok (.if_icmp .lt 12, 3) := by decide +kernel
theorem d_Mo_inner_23 : decode (yB Y_Mo_inner) 23 = .ok (.aload_n 0, 1) := by decide +kernel
theorem d_Mo_inner_24 : decode (yB Y_Mo_inner) 24 = .ok (.getfield 51, 3) := by decide +kernel
theorem d_Mo_inner_27 : decode (yB Y_Mo_inner) 27 = .ok (.iload_n 2, 1) := by decide +kernel
theorem d_Mo_inner_28 : decode (yB Y_Mo_inner) 28 = .ok (.iaload, 1) := by decide +kernel
theorem d_Mo_inner_29 : decode (yB Y_Mo_inner) 29 = .ok (.goto 4, 3) := by decide +kernel
theorem d_Mo_inner_32 : decode (yB Y_Mo_inner) 32 = .ok (.iload_n 1, 1) := by decide +kernel
theorem d_Mo_inner_33 : decode (yB Y_Mo_inner) 33 = .ok (.istore_n 1, 1) := by decide +kernel
theorem d_Mo_inner_34 : decode (yB Y_Mo_inner) 34 = .ok (.iinc 2 1, 3) := by decide +kernel
theorem d_Mo_inner_37 : decode (yB Y_Mo_inner) 37 = .ok (.goto (-33), 3) := by decide +kernel
theorem d_Mo_inner_40 : decode (yB Y_Mo_inner) 40 = .ok (.iload_n 1, 1) := by decide +kernel
theorem d_Mo_inner_41 : decode (yB Y_Mo_inner) 41 = .ok (.ireturn, 1) := by decide +kernel
def F_Mo_inner_b33 (n : Nat) (E : zE) (S : zS) (r4 : Nat × Int32 × Int32 × zH → Option (Int32 × zH)) (a0 : Nat) (x2 : Int32) (s0 : Int32) (M : zH) : Option (Int32 × zH) :=
  r4 (a0, s0, x2 + 1, M)
def F_Mo_inner_L4 (n : Nat) (E : zE) (S : zS) (r4 : Nat × Int32 × Int32 × zH → Option (Int32 × zH)) (a0 : Nat) (x1 : Int32) (x2 : Int32) (M : zH) : Option (Int32 × zH) :=
  (zgI S M a0 11 29).bind fun v1 =>
  if v1 ≤ x2 then
    some (x1, M)
  else
    (zgR S a0 11 27).bind fun b3 =>
    (zldI S M b3 x2).bind fun v4 =>
    if v4 < 31 then
      F_Mo_inner_b33 n E S r4 a0 x2 x1 M
    else
      (zldI S M b3 x2).bind fun v6 =>
      F_Mo_inner_b33 n E S r4 a0 x2 v6 M
def F_Mo_inner_b4 (n : Nat) (E : zE) (S : zS) : Nat × Int32 × Int32 × zH → Option (Int32 × zH) := zfix (fun r4 s => F_Mo_inner_L4 n E S r4 s.1 s.2.1 s.2.2.1 s.2.2.2) n
def F_Mo_inner (n : Nat) (E : zE) (S : zS) (a0 : Nat) (M : zH) : Option (Int32 × zH) :=
  F_Mo_inner_b4 n E S (a0, (-1), 0, M)
theorem K_Mo_inner_b33 (n : Nat) (E : zE) (S : zS) (r4 : Nat × Int32 × Int32 × zH → Option (Int32 × zH)) (a0 : Nat) (x2 : Int32) (s0 : Int32) (M : zH) (r : Int32) (M' : zH) (hr4 : ∀ (a0 : Nat) (x1 : Int32) (x2 : Int32) (M : zH), r4 (a0, x1, x2, M) = some (r, M') → zG E Y_Mo_inner (some (.int r), S, M') 4 [(0, .ref a0), (1, .int x1), (2, .int x2)] [] S M 0 0) (h : F_Mo_inner_b33 n E S r4 a0 x2 s0 M = some (r, M')) : zG E Y_Mo_inner (some (.int r), S, M') 33 [(0, .ref a0), (2, .int x2)] [.int s0] S M 0 0 := by
  unfold F_Mo_inner_b33 at h
  refine zi_istore_n [(1, .int s0), (0, .ref a0), (2, .int x2)] d_Mo_inner_33 (by decide) rfl ?_
  refine zi_iinc 2 (x2 + 1) [(2, .int (x2 + 1)), (1, .int s0), (0, .ref a0)] d_Mo_inner_34 rfl rfl (by decide) rfl ?_
  refine zi_goto (tgt := 4) d_Mo_inner_37 rfl ?_
  refine zi_lo [(0, .ref a0), (1, .int s0), (2, .int (x2 + 1))] [2, 1, 0] rfl ?_
  exact hr4 a0 s0 (x2 + 1) M h
theorem K_Mo_inner_L4 (n : Nat) (E : zE) (S : zS) (r4 : Nat × Int32 × Int32 × zH → Option (Int32 × zH)) (a0 : Nat) (x1 : Int32) (x2 : Int32) (M : zH) (r : Int32) (M' : zH) (hr4 : ∀ (a0 : Nat) (x1 : Int32) (x2 : Int32) (M : zH), r4 (a0, x1, x2, M) = some (r, M') → zG E Y_Mo_inner (some (.int r), S, M') 4 [(0, .ref a0), (1, .int x1), (2, .int x2)] [] S M 0 0) (h : F_Mo_inner_L4 n E S r4 a0 x1 x2 M = some (r, M')) : zG E Y_Mo_inner (some (.int r), S, M') 4 [(0, .ref a0), (1, .int x1), (2, .int x2)] [] S M 0 0 := by
  unfold F_Mo_inner_L4 at h
  refine zi_iload_n 2 d_Mo_inner_4 rfl ?_
  refine zi_aload_n 0 d_Mo_inner_5 rfl ?_
  obtain ⟨v1, ev1, h⟩ := zbind h
  refine zo_getI 9 zkd_11 29 d_Mo_inner_6 ev1 rfl tw_1260 rfl ?_
  refine zi_icmp_ge (tgt := 40) d_Mo_inner_9 rfl (fun c2 => ?_) (fun c2 => ?_)
  · rw [if_pos c2] at h
    refine zi_iload_n 1 d_Mo_inner_40 rfl ?_
    cases h
    exact zo_ret d_Mo_inner_41 (Nat.le_of_ble_eq_true rfl) (Nat.le_of_ble_eq_true rfl) rfl
  · rw [if_neg c2] at h
    refine zi_aload_n 0 d_Mo_inner_12 rfl ?_
    obtain ⟨b3, eb3, h⟩ := zbind h
    refine zo_getR 16 zkd_11 27 d_Mo_inner_13 eb3 rfl tw_1258 rfl ?_
    refine zi_iload_n 2 d_Mo_inner_16 rfl ?_
    obtain ⟨v4, ev4, h⟩ := zbind h
    refine zo_iald 18 d_Mo_inner_17 ev4 rfl ?_
    refine zi_bipush 31 d_Mo_inner_18 rfl ?_
    refine zi_icmp_lt (tgt := 32) d_Mo_inner_20 rfl (fun c5 => ?_) (fun c5 => ?_)
    · rw [if_pos c5] at h
      refine zi_iload_n 1 d_Mo_inner_32 rfl ?_
      refine zi_lo [(0, .ref a0), (2, .int x2)] [0, 2] rfl ?_
      exact K_Mo_inner_b33 n E S r4 a0 x2 x1 M r M' hr4 h
    · rw [if_neg c5] at h
      refine zi_aload_n 0 d_Mo_inner_23 rfl ?_
      refine zo_getR 27 zkd_11 27 d_Mo_inner_24 eb3 rfl tw_1258 rfl ?_
      refine zi_iload_n 2 d_Mo_inner_27 rfl ?_
      obtain ⟨v6, ev6, h⟩ := zbind h
      refine zo_iald 29 d_Mo_inner_28 ev6 rfl ?_
      refine zi_goto (tgt := 33) d_Mo_inner_29 rfl ?_
      refine zi_lo [(0, .ref a0), (2, .int x2)] [0, 2] rfl ?_
      exact K_Mo_inner_b33 n E S r4 a0 x2 v6 M r M' hr4 h
theorem K_Mo_inner_b4 (n : Nat) (E : zE) (S : zS) (a0 : Nat) (x1 : Int32) (x2 : Int32) (M : zH) (r : Int32) (M' : zH)  (h : F_Mo_inner_b4 n E S (a0, x1, x2, M) = some (r, M')) : zG E Y_Mo_inner (some (.int r), S, M') 4 [(0, .ref a0), (1, .int x1), (2, .int x2)] [] S M 0 0 := by
  have key : ∀ (k : Nat) (a0 : Nat) (x1 : Int32) (x2 : Int32) (M : zH), zfix (fun r4 s => F_Mo_inner_L4 n E S r4 s.1 s.2.1 s.2.2.1 s.2.2.2) k (a0, x1, x2, M) = some (r, M') → zG E Y_Mo_inner (some (.int r), S, M') 4 [(0, .ref a0), (1, .int x1), (2, .int x2)] [] S M 0 0 := by
    intro k
    induction k with
    | zero => intro a0 x1 x2 M h; cases h
    | succ k ih => intro a0 x1 x2 M h; exact K_Mo_inner_L4 n E S _ a0 x1 x2 M r M'  (fun a0 x1 x2 M h => ih a0 x1 x2 M h) h
  exact key n a0 x1 x2 M h
theorem K_Mo_inner (n : Nat) (E : zE) (S : zS) (a0 : Nat) (M : zH) (r : Int32) (M' : zH)  (h : F_Mo_inner n E S a0 M = some (r, M')) : zG E Y_Mo_inner (some (.int r), S, M') 0 [(0, .ref a0)] [] S M 0 0 := by
  unfold F_Mo_inner at h
  refine zi_iconst (-1) d_Mo_inner_0 rfl ?_
  refine zi_istore_n [(1, .int (-1)), (0, .ref a0)] d_Mo_inner_1 (by decide) rfl ?_
  refine zi_iconst 0 d_Mo_inner_2 rfl ?_
  refine zi_istore_n [(2, .int 0), (1, .int (-1)), (0, .ref a0)] d_Mo_inner_3 (by decide) rfl ?_
  refine zi_lo [(0, .ref a0), (1, .int (-1)), (2, .int 0)] [2, 1, 0] rfl ?_
  exact K_Mo_inner_b4 n E S a0 (-1) 0 M r M'  h
theorem C_Mo_inner (n : Nat) (E : zE) (S : zS) (a0 : Nat) (M : zH) (r : Int32) (M' : zH) (h : F_Mo_inner n E S a0 M = some (r, M')) : zC E Y_Mo_inner [.ref a0] S M (some (.int r), S, M') :=
  zC.of (Or.inl (show plainName "NightColanderModel" = true by decide)) (Nat.le_of_ble_eq_true rfl) (trivial) (K_Mo_inner n E S a0 M r M' h)
theorem d_Mo_isCompared_0 : decode (yB Y_Mo_isCompared) 0 = .ok (.aload_n 0, 1) := by decide +kernel
theorem d_Mo_isCompared_1 : decode (yB Y_Mo_isCompared) 1 = .ok (.getfield 294, 3) := by decide +kernel
theorem d_Mo_isCompared_4 : decode (yB Y_Mo_isCompared) 4 = .ok (.iconst 1, 1) := by decide +kernel
theorem d_Mo_isCompared_5 : decode (yB Y_Mo_isCompared) 5 = .ok (.isub, 1) := by decide +kernel
theorem d_Mo_isCompared_6 : decode (yB Y_Mo_isCompared) 6 = .ok (.istore_n 1, 1) := by decide +kernel
theorem d_Mo_isCompared_7 : decode (yB Y_Mo_isCompared) 7 = .ok (.iload_n 1, 1) := by decide +kernel
theorem d_Mo_isCompared_8 : decode (yB Y_Mo_isCompared) 8 = .ok (.ifCond .lt 28, 3) := by decide +kernel
theorem d_Mo_isCompared_11 : decode (yB Y_Mo_isCompared) 11 = .ok (.aload_n 0, 1) := by decide +kernel
theorem d_Mo_isCompared_12 : decode (yB Y_Mo_isCompared) 12 = .ok (.getfield 51, 3) := by decide +kernel
theorem d_Mo_isCompared_15 : decode (yB Y_Mo_isCompared) 15 = .ok (.iload_n 1, 1) := by decide +kernel
theorem d_Mo_isCompared_16 : decode (yB Y_Mo_isCompared) 16 = .ok (.iaload, 1) := by decide +kernel
theorem d_Mo_isCompared_17 : decode (yB Y_Mo_isCompared) 17 = .ok (.i2l, 1) := by decide +kernel
theorem d_Mo_isCompared_18 : decode (yB Y_Mo_isCompared) 18 = .ok (.ldc2_w 304, 3) := by decide +kernel
theorem d_Mo_isCompared_21 : decode (yB Y_Mo_isCompared) 21 = .ok (.ldc2_w 306, 3) := by decide +kernel
theorem d_Mo_isCompared_24 : decode (yB Y_Mo_isCompared) 24 = .ok (.invokestatic 176, 3) := by decide +kernel
theorem d_Mo_isCompared_27 : decode (yB Y_Mo_isCompared) 27 = .ok (.ifCond .eq 9, 3) := by decide +kernel
theorem d_Mo_isCompared_30 : decode (yB Y_Mo_isCompared) 30 = .ok (.iinc 1 (-1), 3) := by decide +kernel
theorem d_Mo_isCompared_33 : decode (yB Y_Mo_isCompared) 33 = .ok (.goto (-26), 3) := by decide +kernel
theorem d_Mo_isCompared_36 : decode (yB Y_Mo_isCompared) 36 = .ok (.iload_n 1, 1) := by decide +kernel
theorem d_Mo_isCompared_37 : decode (yB Y_Mo_isCompared) 37 = .ok (.ifCond .lt 26, 3) := by decide +kernel
theorem d_Mo_isCompared_40 : decode (yB Y_Mo_isCompared) 40 = .ok (.aload_n 0, 1) := by decide +kernel
theorem d_Mo_isCompared_41 : decode (yB Y_Mo_isCompared) 41 = .ok (.getfield 51, 3) := by decide +kernel
theorem d_Mo_isCompared_44 : decode (yB Y_Mo_isCompared) 44 = .ok (.iload_n 1, 1) := by decide +kernel
theorem d_Mo_isCompared_45 : decode (yB Y_Mo_isCompared) 45 = .ok (.iaload, 1) := by decide +kernel
theorem d_Mo_isCompared_46 : decode (yB Y_Mo_isCompared) 46 = .ok (.i2l, 1) := by decide +kernel
theorem d_Mo_isCompared_47 : decode (yB Y_Mo_isCompared) 47 = .ok (.ldc2_w 308, 3) := by decide +kernel
theorem d_Mo_isCompared_50 : decode (yB Y_Mo_isCompared) 50 = .ok (.ldc2_w 310, 3) := by decide +kernel
theorem d_Mo_isCompared_53 : decode (yB Y_Mo_isCompared) 53 = .ok (.invokestatic 176, 3) := by decide +kernel
theorem d_Mo_isCompared_56 : decode (yB Y_Mo_isCompared) 56 = .ok (.ifCond .eq 7, 3) := by decide +kernel
theorem d_Mo_isCompared_59 : decode (yB Y_Mo_isCompared) 59 = .ok (.iconst 1, 1) := by decide +kernel
theorem d_Mo_isCompared_60 : decode (yB Y_Mo_isCompared) 60 = .ok (.goto 4, 3) := by decide +kernel
theorem d_Mo_isCompared_63 : decode (yB Y_Mo_isCompared) 63 = .ok (.iconst 0, 1) := by decide +kernel
theorem d_Mo_isCompared_64 : decode (yB Y_Mo_isCompared) 64 = .ok (.ireturn, 1) := by decide +kernel
def F_Mo_isCompared_b36 (n : Nat) (E : zE) (S : zS) (a0 : Nat) (x1 : Int32) (M : zH) : Option (Bool × zH) :=
  if x1 < 0 then
    some (false, M)
  else
    (zgR S a0 11 27).bind fun b2 =>
    (zldI S M b2 x1).bind fun v3 =>
    (F_Mo_in n E S v3.toInt64 25 27 M).bind fun q4 =>
    if q4.1 = true then
      some (true, q4.2)
    else
      some (false, q4.2)
def F_Mo_isCompared_L7 (n : Nat) (E : zE) (S : zS) (r7 : Nat × Int32 × zH → Option (Bool × zH)) (a0 : Nat) (x1 : Int32) (M : zH) : Option (Bool × zH) :=
  if x1 < 0 then
    F_Mo_isCompared_b36 n E S a0 x1 M
  else
    (zgR S a0 11 27).bind fun b7 =>
    (zldI S M b7 x1).bind fun v8 =>
    (F_Mo_in n E S v8.toInt64 20 24 M).bind fun q9 =>
    if q9.1 = true then
      r7 (a0, x1 + (-1), q9.2)
    else
      F_Mo_isCompared_b36 n E S a0 x1 q9.2
def F_Mo_isCompared_b7 (n : Nat) (E : zE) (S : zS) : Nat × Int32 × zH → Option (Bool × zH) := zfix (fun r7 s => F_Mo_isCompared_L7 n E S r7 s.1 s.2.1 s.2.2) n
def F_Mo_isCompared (n : Nat) (E : zE) (S : zS) (a0 : Nat) (M : zH) : Option (Bool × zH) :=
  (zgI S M a0 11 29).bind fun v11 =>
  F_Mo_isCompared_b7 n E S (a0, v11 - 1, M)
theorem K_Mo_isCompared_b36 (n : Nat) (E : zE) (S : zS) (a0 : Nat) (x1 : Int32) (M : zH) (r : Bool) (M' : zH)  (h : F_Mo_isCompared_b36 n E S a0 x1 M = some (r, M')) : zG E Y_Mo_isCompared (some (.int (bI r)), S, M') 36 [(0, .ref a0), (1, .int x1)] [] S M 0 0 := by
  unfold F_Mo_isCompared_b36 at h
  refine zi_iload_n 1 d_Mo_isCompared_36 rfl ?_
  refine zi_if_lt (tgt := 63) d_Mo_isCompared_37 rfl (fun c1 => ?_) (fun c1 => ?_)
  · rw [if_pos c1] at h
    refine zi_iconst 0 d_Mo_isCompared_63 rfl ?_
    cases h
    exact zo_retB d_Mo_isCompared_64 (Nat.le_of_ble_eq_true rfl) (Nat.le_of_ble_eq_true rfl) rfl
  · rw [if_neg c1] at h
    refine zi_aload_n 0 d_Mo_isCompared_40 rfl ?_
    obtain ⟨b2, eb2, h⟩ := zbind h
    refine zo_getR 44 zkd_11 27 d_Mo_isCompared_41 eb2 rfl tw_1258 rfl ?_
    refine zi_iload_n 1 d_Mo_isCompared_44 rfl ?_
    obtain ⟨v3, ev3, h⟩ := zbind h
    refine zo_iald 46 d_Mo_isCompared_45 ev3 rfl ?_
    refine zi_i2l d_Mo_isCompared_46 ?_
    refine zi_ldc2 d_Mo_isCompared_47 tw_1670 ?_
    refine zi_ldc2 d_Mo_isCompared_50 tw_1671 ?_
    obtain ⟨q4, eq4, h⟩ := zbind h
    refine zo_stat (k' := 0) (n' := 0) 56 [.long v3.toInt64, .long 25, .long 27] [] [.int (bI q4.1)] (C_Mo_in n E S v3.toInt64 25 27 M q4.1 q4.2 eq4) d_Mo_isCompared_53 tw_1421 tw_1419 tw_1420 tw_13 dd_Mo_in ⟨Nat.le_of_ble_eq_true rfl, Nat.le_of_ble_eq_true rfl, Nat.le_of_ble_eq_true rfl, Nat.le_of_ble_eq_true rfl⟩ (Nat.le_of_ble_eq_true rfl) rfl rfl rfl rfl ?_
    refine zo_ifeqB d_Mo_isCompared_56 rfl 59 rfl (fun c5 => ?_) (fun c5 => ?_)
    · rw [if_neg c5] at h
      refine zi_iconst 0 d_Mo_isCompared_63 rfl ?_
      cases h
      exact zo_retB d_Mo_isCompared_64 (Nat.le_of_ble_eq_true rfl) (Nat.le_of_ble_eq_true rfl) rfl
    · rw [if_pos c5] at h
      refine zi_iconst 1 d_Mo_isCompared_59 rfl ?_
      refine zi_goto (tgt := 64) d_Mo_isCompared_60 rfl ?_
      cases h
      exact zo_retB d_Mo_isCompared_64 (Nat.le_of_ble_eq_true rfl) (Nat.le_of_ble_eq_true rfl) rfl
theorem K_Mo_isCompared_L7 (n : Nat) (E : zE) (S : zS) (r7 : Nat × Int32 × zH → Option (Bool × zH)) (a0 : Nat) (x1 : Int32) (M : zH) (r : Bool) (M' : zH) (hr7 : ∀ (a0 : Nat) (x1 : Int32) (M : zH), r7 (a0, x1, M) = some (r, M') → zG E Y_Mo_isCompared (some (.int (bI r)), S, M') 7 [(0, .ref a0), (1, .int x1)] [] S M 0 0) (h : F_Mo_isCompared_L7 n E S r7 a0 x1 M = some (r, M')) : zG E Y_Mo_isCompared (some (.int (bI r)), S, M') 7 [(0, .ref a0), (1, .int x1)] [] S M 0 0 := by
  unfold F_Mo_isCompared_L7 at h
  refine zi_iload_n 1 d_Mo_isCompared_7 rfl ?_
  refine zi_if_lt (tgt := 36) d_Mo_isCompared_8 rfl (fun c6 => ?_) (fun c6 => ?_)
  · rw [if_pos c6] at h
    refine zi_lo [(0, .ref a0), (1, .int x1)] [0, 1] rfl ?_
    exact K_Mo_isCompared_b36 n E S a0 x1 M r M'  h
  · rw [if_neg c6] at h
    refine zi_aload_n 0 d_Mo_isCompared_11 rfl ?_
    obtain ⟨b7, eb7, h⟩ := zbind h
    refine zo_getR 15 zkd_11 27 d_Mo_isCompared_12 eb7 rfl tw_1258 rfl ?_
    refine zi_iload_n 1 d_Mo_isCompared_15 rfl ?_
    obtain ⟨v8, ev8, h⟩ := zbind h
    refine zo_iald 17 d_Mo_isCompared_16 ev8 rfl ?_
    refine zi_i2l d_Mo_isCompared_17 ?_
    refine zi_ldc2 d_Mo_isCompared_18 tw_1668 ?_
    refine zi_ldc2 d_Mo_isCompared_21 tw_1669 ?_
    obtain ⟨q9, eq9, h⟩ := zbind h
    refine zo_stat (k' := 0) (n' := 0) 27 [.long v8.toInt64, .long 20, .long 24] [] [.int (bI q9.1)] (C_Mo_in n E S v8.toInt64 20 24 M q9.1 q9.2 eq9) d_Mo_isCompared_24 tw_1421 tw_1419 tw_1420 tw_13 dd_Mo_in ⟨Nat.le_of_ble_eq_true rfl, Nat.le_of_ble_eq_true rfl, Nat.le_of_ble_eq_true rfl, Nat.le_of_ble_eq_true rfl⟩ (Nat.le_of_ble_eq_true rfl) rfl rfl rfl rfl ?_
    refine zo_ifeqB d_Mo_isCompared_27 rfl 30 rfl (fun c10 => ?_) (fun c10 => ?_)
    · rw [if_neg c10] at h
      refine zi_lo [(0, .ref a0), (1, .int x1)] [0, 1] rfl ?_
      exact K_Mo_isCompared_b36 n E S a0 x1 q9.2 r M'  h
    · rw [if_pos c10] at h
      refine zi_iinc 1 (x1 + (-1)) [(1, .int (x1 + (-1))), (0, .ref a0)] d_Mo_isCompared_30 rfl rfl (by decide) rfl ?_
      refine zi_goto (tgt := 7) d_Mo_isCompared_33 rfl ?_
      refine zi_lo [(0, .ref a0), (1, .int (x1 + (-1)))] [1, 0] rfl ?_
      exact hr7 a0 (x1 + (-1)) q9.2 h
theorem K_Mo_isCompared_b7 (n : Nat) (E : zE) (S : zS) (a0 : Nat) (x1 : Int32) (M : zH) (r : Bool) (M' : zH)  (h : F_Mo_isCompared_b7 n E S (a0, x1, M) = some (r, M')) : zG E Y_Mo_isCompared (some (.int (bI r)), S, M') 7 [(0, .ref a0), (1, .int x1)] [] S M 0 0 := by
  have key : ∀ (k : Nat) (a0 : Nat) (x1 : Int32) (M : zH), zfix (fun r7 s => F_Mo_isCompared_L7 n E S r7 s.1 s.2.1 s.2.2) k (a0, x1, M) = some (r, M') → zG E Y_Mo_isCompared (some (.int (bI r)), S, M') 7 [(0, .ref a0), (1, .int x1)] [] S M 0 0 := by
    intro k
    induction k with
    | zero => intro a0 x1 M h; cases h
    | succ k ih => intro a0 x1 M h; exact K_Mo_isCompared_L7 n E S _ a0 x1 M r M'  (fun a0 x1 M h => ih a0 x1 M h) h
  exact key n a0 x1 M h
theorem K_Mo_isCompared (n : Nat) (E : zE) (S : zS) (a0 : Nat) (M : zH) (r : Bool) (M' : zH)  (h : F_Mo_isCompared n E S a0 M = some (r, M')) : zG E Y_Mo_isCompared (some (.int (bI r)), S, M') 0 [(0, .ref a0)] [] S M 0 0 := by
  unfold F_Mo_isCompared at h
  refine zi_aload_n 0 d_Mo_isCompared_0 rfl ?_
  obtain ⟨v11, ev11, h⟩ := zbind h
  refine zo_getI 4 zkd_11 29 d_Mo_isCompared_1 ev11 rfl tw_1260 rfl ?_
  refine zi_iconst 1 d_Mo_isCompared_4 rfl ?_
  refine zi_isub d_Mo_isCompared_5 ?_
  refine zi_istore_n [(1, .int (v11 - 1)), (0, .ref a0)] d_Mo_isCompared_6 (by decide) rfl ?_
  refine zi_lo [(0, .ref a0), (1, .int (v11 - 1))] [1, 0] rfl ?_
  exact K_Mo_isCompared_b7 n E S a0 (v11 - 1) M r M'  h
theorem C_Mo_isCompared (n : Nat) (E : zE) (S : zS) (a0 : Nat) (M : zH) (r : Bool) (M' : zH) (h : F_Mo_isCompared n E S a0 M = some (r, M')) : zC E Y_Mo_isCompared [.ref a0] S M (some (.int (bI r)), S, M') :=
  zC.of (Or.inl (show plainName "NightColanderModel" = true by decide)) (Nat.le_of_ble_eq_true rfl) (bI_nar r) (K_Mo_isCompared n E S a0 M r M' h)
theorem d_Mo_push_0 : decode (yB Y_Mo_push) 0 = .ok (.aload_n 0, 1) := by decide +kernel
theorem d_Mo_push_1 : decode (yB Y_Mo_push) 1 = .ok (.getfield 51, 3) := by decide +kernel
theorem d_Mo_push_4 : decode (yB Y_Mo_push) 4 = .ok (.aload_n 0, 1) := by decide +kernel
theorem d_Mo_push_5 : decode (yB Y_Mo_push) 5 = .ok (.getfield 294, 3) := by decide +kernel
theorem d_Mo_push_8 : decode (yB Y_Mo_push) 8 = .ok (.iload_n 1, 1) := by decide +kernel
theorem d_Mo_push_9 : decode (yB Y_Mo_push) 9 = .ok (.iastore, 1) := by decide +kernel
theorem d_Mo_push_10 : decode (yB Y_Mo_push) 10 = .ok (.aload_n 0, 1) := by decide +kernel
theorem d_Mo_push_11 : decode (yB Y_Mo_push) 11 = .ok (.getfield 54, 3) := by decide +kernel
theorem d_Mo_push_14 : decode (yB Y_Mo_push) 14 = .ok (.aload_n 0, 1) := by decide +kernel
theorem d_Mo_push_15 : decode (yB Y_Mo_push) 15 = .ok (.getfield 294, 3) := by decide +kernel
theorem d_Mo_push_18 : decode (yB Y_Mo_push) 18 = .ok (.iload_n 2, 1) := by decide +kernel
theorem d_Mo_push_19 : decode (yB Y_Mo_push) 19 = .ok (.iastore, 1) := by decide +kernel
theorem d_Mo_push_20 : decode (yB Y_Mo_push) 20 = .ok (.aload_n 0, 1) := by decide +kernel
theorem d_Mo_push_21 : decode (yB Y_Mo_push) 21 = .ok (.dup, 1) := by decide +kernel
theorem d_Mo_push_22 : decode (yB Y_Mo_push) 22 = .ok (.getfield 294, 3) := by decide +kernel
theorem d_Mo_push_25 : decode (yB Y_Mo_push) 25 = .ok (.iconst 1, 1) := by decide +kernel
theorem d_Mo_push_26 : decode (yB Y_Mo_push) 26 = .ok (.iadd, 1) := by decide +kernel
theorem d_Mo_push_27 : decode (yB Y_Mo_push) 27 = .ok (.putfield 294, 3) := by decide +kernel
theorem d_Mo_push_30 : decode (yB Y_Mo_push) 30 = .ok (.return_, 1) := by decide +kernel
def F_Mo_push (n : Nat) (E : zE) (S : zS) (a0 : Nat) (x1 : Int32) (x2 : Int32) (M : zH) : Option (zH) :=
  (zgR S a0 11 27).bind fun b1 =>
  (zgI S M a0 11 29).bind fun v2 =>
  (zstI S M b1 v2 x1).bind fun m3 =>
  (zgR S a0 11 28).bind fun b4 =>
  (zgI S m3 a0 11 29).bind fun v5 =>
  (zstI S m3 b4 v5 x2).bind fun m6 =>
  (zgI S m6 a0 11 29).bind fun v7 =>
  (zpI S m6 a0 11 29 (v7 + 1)).bind fun m8 =>
  some (m8)
theorem K_Mo_push (n : Nat) (E : zE) (S : zS) (a0 : Nat) (x1 : Int32) (x2 : Int32) (M : zH) (M' : zH)  (h : F_Mo_push n E S a0 x1 x2 M = some M') : zG E Y_Mo_push (none, S, M') 0 [(0, .ref a0), (1, .int x1), (2, .int x2)] [] S M 0 0 := by
  unfold F_Mo_push at h
  refine zi_aload_n 0 d_Mo_push_0 rfl ?_
  obtain ⟨b1, eb1, h⟩ := zbind h
  refine zo_getR 4 zkd_11 27 d_Mo_push_1 eb1 rfl tw_1258 rfl ?_
  refine zi_aload_n 0 d_Mo_push_4 rfl ?_
  obtain ⟨v2, ev2, h⟩ := zbind h
  refine zo_getI 8 zkd_11 29 d_Mo_push_5 ev2 rfl tw_1260 rfl ?_
  refine zi_iload_n 1 d_Mo_push_8 rfl ?_
  obtain ⟨m3, em3, h⟩ := zbind h
  refine zo_iast 10 d_Mo_push_9 em3 rfl ?_
  refine zi_aload_n 0 d_Mo_push_10 rfl ?_
  obtain ⟨b4, eb4, h⟩ := zbind h
  refine zo_getR 14 zkd_11 28 d_Mo_push_11 eb4 rfl tw_1259 rfl ?_
  refine zi_aload_n 0 d_Mo_push_14 rfl ?_
  obtain ⟨v5, ev5, h⟩ := zbind h
  refine zo_getI 18 zkd_11 29 d_Mo_push_15 ev5 rfl tw_1260 rfl ?_
  refine zi_iload_n 2 d_Mo_push_18 rfl ?_
  obtain ⟨m6, em6, h⟩ := zbind h
  refine zo_iast 20 d_Mo_push_19 em6 rfl ?_
  refine zi_aload_n 0 d_Mo_push_20 rfl ?_
  refine zi_dup d_Mo_push_21 rfl ?_
  obtain ⟨v7, ev7, h⟩ := zbind h
  refine zo_getI 25 zkd_11 29 d_Mo_push_22 ev7 rfl tw_1260 rfl ?_
  refine zi_iconst 1 d_Mo_push_25 rfl ?_
  refine zi_iadd d_Mo_push_26 ?_
  obtain ⟨m8, em8, h⟩ := zbind h
  refine zo_putI 30 zkd_11 29 d_Mo_push_27 em8 rfl rfl rfl tw_1260 rfl ?_
  cases h
  exact zo_ret d_Mo_push_30 (Nat.le_of_ble_eq_true rfl) (Nat.le_of_ble_eq_true rfl) rfl
theorem C_Mo_push (n : Nat) (E : zE) (S : zS) (a0 : Nat) (x1 : Int32) (x2 : Int32) (M : zH) (M' : zH) (h : F_Mo_push n E S a0 x1 x2 M = some M') : zC E Y_Mo_push [.ref a0, .int x1, .int x2] S M (none, S, M') :=
  zC.of (Or.inl (show plainName "NightColanderModel" = true by decide)) (Nat.le_of_ble_eq_true rfl) (trivial) (K_Mo_push n E S a0 x1 x2 M M' h)
theorem d_Mo_emit_0 : decode (yB Y_Mo_emit) 0 = .ok (.aload_n 0, 1) := by decide +kernel
theorem d_Mo_emit_1 : decode (yB Y_Mo_emit) 1 = .ok (.getfield 45, 3) := by decide +kernel
theorem d_Mo_emit_4 : decode (yB Y_Mo_emit) 4 = .ok (.aload_n 0, 1) := by decide +kernel
theorem d_Mo_emit_5 : decode (yB Y_Mo_emit) 5 = .ok (.getfield 291, 3) := by decide +kernel
theorem d_Mo_emit_8 : decode (yB Y_Mo_emit) 8 = .ok (.iload_n 1, 1) := by decide +kernel
theorem d_Mo_emit_9 : decode (yB Y_Mo_emit) 9 = .ok (.iastore, 1) := by decide +kernel
theorem d_Mo_emit_10 : decode (yB Y_Mo_emit) 10 = .ok (.aload_n 0, 1) := by decide +kernel
theorem d_Mo_emit_11 : decode (yB Y_Mo_emit) 11 = .ok (.getfield 48, 3) := by decide +kernel
theorem d_Mo_emit_14 : decode (yB Y_Mo_emit) 14 = .ok (.aload_n 0, 1) := by decide +kernel
theorem d_Mo_emit_15 : decode (yB Y_Mo_emit) 15 = .ok (.getfield 291, 3) := by decide +kernel
theorem d_Mo_emit_18 : decode (yB Y_Mo_emit) 18 = .ok (.iload_n 2, 1) := by decide +kernel
theorem d_Mo_emit_19 : decode (yB Y_Mo_emit) 19 = .ok (.iastore, 1) := by decide +kernel
theorem d_Mo_emit_20 : decode (yB Y_Mo_emit) 20 = .ok (.aload_n 0, 1) := by decide +kernel
theorem d_Mo_emit_21 : decode (yB Y_Mo_emit) 21 = .ok (.dup, 1) := by decide +kernel
theorem d_Mo_emit_22 : decode (yB Y_Mo_emit) 22 = .ok (.getfield 291, 3) := by decide +kernel
theorem d_Mo_emit_25 : decode (yB Y_Mo_emit) 25 = .ok (.iconst 1, 1) := by decide +kernel
theorem d_Mo_emit_26 : decode (yB Y_Mo_emit) 26 = .ok (.iadd, 1) := by decide +kernel
theorem d_Mo_emit_27 : decode (yB Y_Mo_emit) 27 = .ok (.putfield 291, 3) := by decide +kernel
theorem d_Mo_emit_30 : decode (yB Y_Mo_emit) 30 = .ok (.return_, 1) := by decide +kernel
def F_Mo_emit (n : Nat) (E : zE) (S : zS) (a0 : Nat) (x1 : Int32) (x2 : Int32) (M : zH) : Option (zH) :=
  (zgR S a0 11 24).bind fun b1 =>
  (zgI S M a0 11 23).bind fun v2 =>
  (zstI S M b1 v2 x1).bind fun m3 =>
  (zgR S a0 11 25).bind fun b4 =>
  (zgI S m3 a0 11 23).bind fun v5 =>
  (zstI S m3 b4 v5 x2).bind fun m6 =>
  (zgI S m6 a0 11 23).bind fun v7 =>
  (zpI S m6 a0 11 23 (v7 + 1)).bind fun m8 =>
  some (m8)
theorem K_Mo_emit (n : Nat) (E : zE) (S : zS) (a0 : Nat) (x1 : Int32) (x2 : Int32) (M : zH) (M' : zH)  (h : F_Mo_emit n E S a0 x1 x2 M = some M') : zG E Y_Mo_emit (none, S, M') 0 [(0, .ref a0), (1, .int x1), (2, .int x2)] [] S M 0 0 := by
  unfold F_Mo_emit at h
  refine zi_aload_n 0 d_Mo_emit_0 rfl ?_
  obtain ⟨b1, eb1, h⟩ := zbind h
  refine zo_getR 4 zkd_11 24 d_Mo_emit_1 eb1 rfl tw_1255 rfl ?_
  refine zi_aload_n 0 d_Mo_emit_4 rfl ?_
  obtain ⟨v2, ev2, h⟩ := zbind h
  refine zo_getI 8 zkd_11 23 d_Mo_emit_5 ev2 rfl tw_1254 rfl ?_
  refine zi_iload_n 1 d_Mo_emit_8 rfl ?_
  obtain ⟨m3, em3, h⟩ := zbind h
  refine zo_iast 10 d_Mo_emit_9 em3 rfl ?_
  refine zi_aload_n 0 d_Mo_emit_10 rfl ?_
  obtain ⟨b4, eb4, h⟩ := zbind h
  refine zo_getR 14 zkd_11 25 d_Mo_emit_11 eb4 rfl tw_1256 rfl ?_
  refine zi_aload_n 0 d_Mo_emit_14 rfl ?_
  obtain ⟨v5, ev5, h⟩ := zbind h
  refine zo_getI 18 zkd_11 23 d_Mo_emit_15 ev5 rfl tw_1254 rfl ?_
  refine zi_iload_n 2 d_Mo_emit_18 rfl ?_
  obtain ⟨m6, em6, h⟩ := zbind h
  refine zo_iast 20 d_Mo_emit_19 em6 rfl ?_
  refine zi_aload_n 0 d_Mo_emit_20 rfl ?_
  refine zi_dup d_Mo_emit_21 rfl ?_
  obtain ⟨v7, ev7, h⟩ := zbind h
  refine zo_getI 25 zkd_11 23 d_Mo_emit_22 ev7 rfl tw_1254 rfl ?_
  refine zi_iconst 1 d_Mo_emit_25 rfl ?_
  refine zi_iadd d_Mo_emit_26 ?_
  obtain ⟨m8, em8, h⟩ := zbind h
  refine zo_putI 30 zkd_11 23 d_Mo_emit_27 em8 rfl rfl rfl tw_1254 rfl ?_
  cases h
  exact zo_ret d_Mo_emit_30 (Nat.le_of_ble_eq_true rfl) (Nat.le_of_ble_eq_true rfl) rfl
theorem C_Mo_emit (n : Nat) (E : zE) (S : zS) (a0 : Nat) (x1 : Int32) (x2 : Int32) (M : zH) (M' : zH) (h : F_Mo_emit n E S a0 x1 x2 M = some M') : zC E Y_Mo_emit [.ref a0, .int x1, .int x2] S M (none, S, M') :=
  zC.of (Or.inl (show plainName "NightColanderModel" = true by decide)) (Nat.le_of_ble_eq_true rfl) (trivial) (K_Mo_emit n E S a0 x1 x2 M M' h)
theorem d_Mo_settle_0 : decode (yB Y_Mo_settle) 0 = .ok (.aload_n 0, 1) := by decide +kernel
theorem d_Mo_settle_1 : decode (yB Y_Mo_settle) 1 = .ok (.getfield 294, 3) := by decide +kernel
theorem d_Mo_settle_4 : decode (yB Y_Mo_settle) 4 = .ok (.ifCond .le 97, 3) := by decide +kernel
theorem d_Mo_settle_7 : decode (yB Y_Mo_settle) 7 = .ok (.aload_n 0, 1) := by decide +kernel
theorem d_Mo_settle_8 : decode (yB Y_Mo_settle) 8 = .ok (.getfield 51, 3) := by decide +kernel
theorem d_Mo_settle_11 : decode (yB Y_Mo_settle) 11 = .ok (.aload_n 0, 1) := by decide +kernel
theorem d_Mo_settle_12 : decode (yB Y_Mo_settle) 12 = .ok (.getfield 294, 3) := by decide +kernel
theorem d_Mo_settle_15 : decode (yB Y_Mo_settle) 15 = .ok (.iconst 1, 1) := by decide +kernel
theorem d_Mo_settle_16 : decode (yB Y_Mo_settle) 16 = .ok (.isub, 1) := by decide +kernel
theorem d_Mo_settle_17 : decode (yB Y_Mo_settle) 17 = .ok (.iaload, 1) := by decide +kernel
theorem d_Mo_settle_18 : decode (yB Y_Mo_settle) 18 = .ok (.invokestatic 297, 3) := by decide +kernel
theorem d_Mo_settle_21 : decode (yB Y_Mo_settle) 21 = .ok (.iload_n 1, 1) := by decide +kernel
theorem d_Mo_settle_22 : decode (yB Y_Mo_settle) 22 = .ok (.if_icmp .lt 79, 3) := by decide +kernel
theorem d_Mo_settle_25 : decode (yB Y_Mo_settle) 25 = .ok (.aload_n 0, 1) := by decide +kernel
theorem d_Mo_settle_26 : decode (yB Y_Mo_settle) 26 = .ok (.dup, 1) := by decide +kernel
theorem d_Mo_settle_27 : decode (yB Y_Mo_settle) 27 = .ok (.getfield 294, 3) := by decide +kernel
theorem d_Mo_settle_30 : decode (yB Y_Mo_settle) 30 = .ok (.iconst 1, 1) := by decide +kernel
theorem d_Mo_settle_31 : decode (yB Y_Mo_settle) 31 = .ok (.isub, 1) := by decide +kernel
theorem d_Mo_settle_32 : decode (yB Y_Mo_settle) 32 = .ok (.putfield 294, 3) := by decide +kernel
theorem d_Mo_settle_35 : decode (yB Y_Mo_settle) 35 = .ok (.aload_n 0, 1) := by decide +kernel
theorem d_Mo_settle_36 : decode (yB Y_Mo_settle) 36 = .ok (.getfield 51, 3) := by decide +kernel
theorem d_Mo_settle_39 : decode (yB Y_Mo_settle) 39 = .ok (.aload_n 0, 1) := by decide +kernel
theorem d_Mo_settle_40 : decode (yB Y_Mo_settle) 40 = .ok (.getfield 294, 3) := by decide +kernel
theorem d_Mo_settle_43 : decode (yB Y_Mo_settle) 43 = .ok (.iaload, 1) := by decide +kernel
theorem d_Mo_settle_44 : decode (yB Y_Mo_settle) 44 = .ok (.bipush 29, 2) := by decide +kernel
theorem d_Mo_settle_46 : decode (yB Y_Mo_settle) 46 = .ok (.if_icmp .eq 17, 3) := by decide +kernel
theorem d_Mo_settle_49 : decode (yB Y_Mo_settle) 49 = .ok (.aload_n 0, 1) := by decide +kernel
theorem d_Mo_settle_50 : decode (yB Y_Mo_settle) 50 = .ok (.getfield 51, 3) := by decide +kernel
theorem d_Mo_settle_53 : decode (yB Y_Mo_settle) 53 = .ok (.aload_n 0, 1) := by decide +kernel
theorem d_Mo_settle_54 : decode (yB Y_Mo_settle) 54 = .ok (.getfield 294, 3) := by decide +kernel
theorem d_Mo_settle_57 : decode (yB Y_Mo_settle) 57 = .ok (.iaload, 1) := by decide +kernel
theorem d_Mo_settle_58 : decode (yB Y_Mo_settle) 58 = .ok (.bipush 30, 2) := by decide +kernel
theorem d_Mo_settle_60 : decode (yB Y_Mo_settle) 60 = .ok (.if_icmp .ne 24, 3) := by decide +kernel
theorem d_Mo_settle_63 : decode (yB Y_Mo_settle) 63 = .ok (.aload_n 0, 1) := by decide +kernel
theorem d_Mo_settle_64 : decode (yB Y_Mo_settle) 64 = .ok (.getfield 48, 3) := by decide +kernel
theorem d_Mo_settle_67 : decode (yB Y_Mo_settle) 67 = .ok (.aload_n 0, 1) := by decide +kernel
theorem d_Mo_settle_68 : decode (yB Y_Mo_settle) 68 = .ok (.getfield 54, 3) := by decide +kernel
theorem d_Mo_settle_71 : decode (yB Y_Mo_settle) 71 = .ok (.aload_n 0, 1) := by decide +kernel
theorem d_Mo_settle_72 : decode (yB Y_Mo_settle) 72 = .ok (.getfield 294, 3) := by decide +kernel
theorem d_Mo_settle_75 : decode (yB Y_Mo_settle) 75 = .ok (.iaload, 1) := by decide +kernel
theorem d_Mo_settle_76 : decode (yB Y_Mo_settle) 76 = .ok (.aload_n 0, 1) := by decide +kernel
theorem d_Mo_settle_77 : decode (yB Y_Mo_settle) 77 = .ok (.getfield 291, 3) := by decide +kernel
theorem d_Mo_settle_80 : decode (yB Y_Mo_settle) 80 = .ok (.iastore, 1) := by decide +kernel
theorem d_Mo_settle_81 : decode (yB Y_Mo_settle) 81 = .ok (.goto (-81), 3) := by decide +kernel
theorem d_Mo_settle_84 : decode (yB Y_Mo_settle) 84 = .ok (.aload_n 0, 1) := by decide +kernel
theorem d_Mo_settle_85 : decode (yB Y_Mo_settle) 85 = .ok (.aload_n 0, 1) := by decide +kernel
theorem d_Mo_settle_86 : decode (yB Y_Mo_settle) 86 = .ok (.getfield 51, 3) := by decide +kernel
theorem d_Mo_settle_89 : decode (yB Y_Mo_settle) 89 = .ok (.aload_n 0, 1) := by decide +kernel
theorem d_Mo_settle_90 : decode (yB Y_Mo_settle) 90 = .ok (.getfield 294, 3) := by decide +kernel
theorem d_Mo_settle_93 : decode (yB Y_Mo_settle) 93 = .ok (.iaload, 1) := by decide +kernel
theorem d_Mo_settle_94 : decode (yB Y_Mo_settle) 94 = .ok (.iconst 0, 1) := by decide +kernel
theorem d_Mo_settle_95 : decode (yB Y_Mo_settle) 95 = .ok (.invokevirtual 300, 3) := by decide +kernel
theorem d_Mo_settle_98 : decode (yB Y_Mo_settle) 98 = .ok (.goto (-98), 3) := by decide +kernel
theorem d_Mo_settle_101 : decode (yB Y_Mo_settle) 101 = .ok (.return_, 1) := by decide +kernel
def F_Mo_settle_b63 (n : Nat) (E : zE) (S : zS) (r0 : Nat × Int32 × zH → Option (zH)) (a0 : Nat) (x1 : Int32) (M : zH) : Option (zH) :=
  (zgR S a0 11 25).bind fun b1 =>
  (zgR S a0 11 28).bind fun b2 =>
  (zgI S M a0 11 29).bind fun v3 =>
  (zldI S M b2 v3).bind fun v4 =>
  (zgI S M a0 11 23).bind fun v5 =>
  (zstI S M b1 v4 v5).bind fun m6 =>
  r0 (a0, x1, m6)
def F_Mo_settle_L0 (n : Nat) (E : zE) (S : zS) (r0 : Nat × Int32 × zH → Option (zH)) (a0 : Nat) (x1 : Int32) (M : zH) : Option (zH) :=
  (zgI S M a0 11 29).bind fun v7 =>
  if v7 ≤ 0 then
    some (M)
  else
    (zgR S a0 11 27).bind fun b9 =>
    (zgI S M a0 11 29).bind fun v10 =>
    (zldI S M b9 (v10 - 1)).bind fun v11 =>
    (F_Mo_binds n E S v11 M).bind fun q12 =>
    if q12.1 < x1 then
      some (q12.2)
    else
      (zgI S q12.2 a0 11 29).bind fun v14 =>
      (zpI S q12.2 a0 11 29 (v14 - 1)).bind fun m15 =>
      (zgI S m15 a0 11 29).bind fun v16 =>
      (zldI S m15 b9 v16).bind fun v17 =>
      if v17 = 29 then
        F_Mo_settle_b63 n E S r0 a0 x1 m15
      else
        (zgI S m15 a0 11 29).bind fun v19 =>
        (zldI S m15 b9 v19).bind fun v20 =>
        if v20 = 30 then
          F_Mo_settle_b63 n E S r0 a0 x1 m15
        else
          (zgI S m15 a0 11 29).bind fun v22 =>
          (zldI S m15 b9 v22).bind fun v23 =>
          (F_Mo_emit n E S a0 v23 0 m15).bind fun q24 =>
          r0 (a0, x1, q24)
def F_Mo_settle_b0 (n : Nat) (E : zE) (S : zS) : Nat × Int32 × zH → Option (zH) := zfix (fun r0 s => F_Mo_settle_L0 n E S r0 s.1 s.2.1 s.2.2) n
def F_Mo_settle (n : Nat) (E : zE) (S : zS) (a0 : Nat) (x1 : Int32) (M : zH) : Option (zH) :=
  (zgI S M a0 11 29).bind fun v25 =>
  if v25 ≤ 0 then
    some (M)
  else
    (zgR S a0 11 27).bind fun b27 =>
    (zgI S M a0 11 29).bind fun v28 =>
    (zldI S M b27 (v28 - 1)).bind fun v29 =>
    (F_Mo_binds n E S v29 M).bind fun q30 =>
    if q30.1 < x1 then
      some (q30.2)
    else
      (zgI S q30.2 a0 11 29).bind fun v32 =>
      (zpI S q30.2 a0 11 29 (v32 - 1)).bind fun m33 =>
      (zgI S m33 a0 11 29).bind fun v34 =>
      (zldI S m33 b27 v34).bind fun v35 =>
      if v35 = 29 then
        F_Mo_settle_b63 n E S r0 a0 x1 m33
      else
        (zgI S m33 a0 11 29).bind fun v37 =>
        (zldI S m33 b27 v37).bind fun v38 =>
        if v38 = 30 then
          F_Mo_settle_b63 n E S r0 a0 x1 m33
        else
          (zgI S m33 a0 11 29).bind fun v40 =>
          (zldI S m33 b27 v40).bind fun v41 =>
          (F_Mo_emit n E S a0 v41 0 m33).bind fun q42 =>
          F_Mo_settle_b0 n E S (a0, x1, q42)
theorem K_Mo_settle_b63 (n : Nat) (E : zE) (S : zS) (r0 : Nat × Int32 × zH → Option (zH)) (a0 : Nat) (x1 : Int32) (M : zH) (M' : zH) (hr0 : ∀ (a0 : Nat) (x1 : Int32) (M : zH), r0 (a0, x1, M) = some M' → zG E Y_Mo_settle (none, S, M') 0 [(0, .ref a0), (1, .int x1)] [] S M 0 0) (h : F_Mo_settle_b63 n E S r0 a0 x1 M = some M') : zG E Y_Mo_settle (none, S, M') 63 [(0, .ref a0), (1, .int x1)] [] S M 0 0 := by
  unfold F_Mo_settle_b63 at h
  refine zi_aload_n 0 d_Mo_settle_63 rfl ?_
  obtain ⟨b1, eb1, h⟩ := zbind h
  refine zo_getR 67 zkd_11 25 d_Mo_settle_64 eb1 rfl tw_1256 rfl ?_
  refine zi_aload_n 0 d_Mo_settle_67 rfl ?_
  obtain ⟨b2, eb2, h⟩ := zbind h
  refine zo_getR 71 zkd_11 28 d_Mo_settle_68 eb2 rfl tw_1259 rfl ?_
  refine zi_aload_n 0 d_Mo_settle_71 rfl ?_
  obtain ⟨v3, ev3, h⟩ := zbind h
  refine zo_getI 75 zkd_11 29 d_Mo_settle_72 ev3 rfl tw_1260 rfl ?_
  obtain ⟨v4, ev4, h⟩ := zbind h
  refine zo_iald 76 d_Mo_settle_75 ev4 rfl ?_
  refine zi_aload_n 0 d_Mo_settle_76 rfl ?_
  obtain ⟨v5, ev5, h⟩ := zbind h
  refine zo_getI 80 zkd_11 23 d_Mo_settle_77 ev5 rfl tw_1254 rfl ?_
  obtain ⟨m6, em6, h⟩ := zbind h
  refine zo_iast 81 d_Mo_settle_80 em6 rfl ?_
  refine zi_goto (tgt := 0) d_Mo_settle_81 rfl ?_
  refine zi_lo [(0, .ref a0), (1, .int x1)] [0, 1] rfl ?_
  exact hr0 a0 x1 m6 h
theorem K_Mo_settle_L0 (n : Nat) (E : zE) (S : zS) (r0 : Nat × Int32 × zH → Option (zH)) (a0 : Nat) (x1 : Int32) (M : zH) (M' : zH) (hr0 : ∀ (a0 : Nat) (x1 : Int32) (M : zH), r0 (a0, x1, M) = some M' → zG E Y_Mo_settle (none, S, M') 0 [(0, .ref a0), (1, .int x1)] [] S M 0 0) (h : F_Mo_settle_L0 n E S r0 a0 x1 M = some M') : zG E Y_Mo_settle (none, S, M') 0 [(0, .ref a0), (1, .int x1)] [] S M 0 0 := by
  unfold F_Mo_settle_L0 at h
  refine zi_aload_n 0 d_Mo_settle_0 rfl ?_
  obtain ⟨v7, ev7, h⟩ := zbind h
  refine zo_getI 4 zkd_11 29 d_Mo_settle_1 ev7 rfl tw_1260 rfl ?_
  refine zi_if_le (tgt := 101) d_Mo_settle_4 rfl (fun c8 => ?_) (fun c8 => ?_)
  · rw [if_pos c8] at h
    cases h
    exact zo_ret d_Mo_settle_101 (Nat.le_of_ble_eq_true rfl) (Nat.le_of_ble_eq_true rfl) rfl
  · rw [if_neg c8] at h
    refine zi_aload_n 0 d_Mo_settle_7 rfl ?_
    obtain ⟨b9, eb9, h⟩ := zbind h
    refine zo_getR 11 zkd_11 27 d_Mo_settle_8 eb9 rfl tw_1258 rfl ?_
    refine zi_aload_n 0 d_Mo_settle_11 rfl ?_
    obtain ⟨v10, ev10, h⟩ := zbind h
    refine zo_getI 15 zkd_11 29 d_Mo_settle_12 ev10 rfl tw_1260 rfl ?_
    refine zi_iconst 1 d_Mo_settle_15 rfl ?_
    refine zi_isub d_Mo_settle_16 ?_
    obtain ⟨v11, ev11, h⟩ := zbind h
    refine zo_iald 18 d_Mo_settle_17 ev11 rfl ?_
    obtain ⟨q12, eq12, h⟩ := zbind h
    refine zo_stat (k' := 0) (n' := 0) 21 [.int v11] [] [.int q12.1] (C_Mo_binds n E S v11 M q12.1 q12.2 eq12) d_Mo_settle_18 tw_1655 tw_1653 tw_1654 tw_13 dd_Mo_binds ⟨Nat.le_of_ble_eq_true rfl, Nat.le_of_ble_eq_true rfl, Nat.le_of_ble_eq_true rfl, Nat.le_of_ble_eq_true rfl⟩ (Nat.le_of_ble_eq_true rfl) rfl rfl rfl rfl ?_
    refine zi_iload_n 1 d_Mo_settle_21 rfl ?_
    refine zi_icmp_lt (tgt := 101) d_Mo_settle_22 rfl (fun c13 => ?_) (fun c13 => ?_)
    · rw [if_pos c13] at h
      cases h
      exact zo_ret d_Mo_settle_101 (Nat.le_of_ble_eq_true rfl) (Nat.le_of_ble_eq_true rfl) rfl
    · rw [if_neg c13] at h
      refine zi_aload_n 0 d_Mo_settle_25 rfl ?_
      refine zi_dup d_Mo_settle_26 rfl ?_
      obtain ⟨v14, ev14, h⟩ := zbind h
      refine zo_getI 30 zkd_11 29 d_Mo_settle_27 ev14 rfl tw_1260 rfl ?_
      refine zi_iconst 1 d_Mo_settle_30 rfl ?_
      refine zi_isub d_Mo_settle_31 ?_
      obtain ⟨m15, em15, h⟩ := zbind h
      refine zo_putI 35 zkd_11 29 d_Mo_settle_32 em15 rfl rfl rfl tw_1260 rfl ?_
      refine zi_aload_n 0 d_Mo_settle_35 rfl ?_
      refine zo_getR 39 zkd_11 27 d_Mo_settle_36 eb9 rfl tw_1258 rfl ?_
      refine zi_aload_n 0 d_Mo_settle_39 rfl ?_
      obtain ⟨v16, ev16, h⟩ := zbind h
      refine zo_getI 43 zkd_11 29 d_Mo_settle_40 ev16 rfl tw_1260 rfl ?_
      obtain ⟨v17, ev17, h⟩ := zbind h
      refine zo_iald 44 d_Mo_settle_43 ev17 rfl ?_
      refine zi_bipush 29 d_Mo_settle_44 rfl ?_
      refine zi_icmp_eq (tgt := 63) d_Mo_settle_46 rfl (fun c18 => ?_) (fun c18 => ?_)
      · rw [if_pos c18] at h
        refine zi_lo [(0, .ref a0), (1, .int x1)] [0, 1] rfl ?_
        exact K_Mo_settle_b63 n E S r0 a0 x1 m15 M' hr0 h
      · rw [if_neg c18] at h
        refine zi_aload_n 0 d_Mo_settle_49 rfl ?_
        refine zo_getR 53 zkd_11 27 d_Mo_settle_50 eb9 rfl tw_1258 rfl ?_
        refine zi_aload_n 0 d_Mo_settle_53 rfl ?_
        obtain ⟨v19, ev19, h⟩ := zbind h
        refine zo_getI 57 zkd_11 29 d_Mo_settle_54 ev19 rfl tw_1260 rfl ?_
        obtain ⟨v20, ev20, h⟩ := zbind h
        refine zo_iald 58 d_Mo_settle_57 ev20 rfl ?_
        refine zi_bipush 30 d_Mo_settle_58 rfl ?_
        refine zi_icmp_ne (tgt := 84) d_Mo_settle_60 rfl (fun c21 => ?_) (fun c21 => ?_)
        · rw [if_neg c21] at h
          refine zi_aload_n 0 d_Mo_settle_84 rfl ?_
          refine zi_aload_n 0 d_Mo_settle_85 rfl ?_
          refine zo_getR 89 zkd_11 27 d_Mo_settle_86 eb9 rfl tw_1258 rfl ?_
          refine zi_aload_n 0 d_Mo_settle_89 rfl ?_
          obtain ⟨v22, ev22, h⟩ := zbind h
          refine zo_getI 93 zkd_11 29 d_Mo_settle_90 ev22 rfl tw_1260 rfl ?_
          obtain ⟨v23, ev23, h⟩ := zbind h
          refine zo_iald 94 d_Mo_settle_93 ev23 rfl ?_
          refine zi_iconst 0 d_Mo_settle_94 rfl ?_
          obtain ⟨q24, eq24, h⟩ := zbind h
          refine zo_virt (k' := 0) (n' := 0) 98 [.int v23, .int 0] [] [] zkd_11 (zgI_s ev7).1 (C_Mo_emit n E S a0 v23 0 m15 q24 eq24) d_Mo_settle_95 tw_1643 tw_1640 tw_1642 ts_69 tw_13 dd_Mo_emit ⟨Nat.le_of_ble_eq_true rfl, Nat.le_of_ble_eq_true rfl, Nat.le_of_ble_eq_true rfl, Nat.le_of_ble_eq_true rfl⟩ (Nat.le_of_ble_eq_true rfl) rfl rfl rfl rfl ?_
          refine zi_goto (tgt := 0) d_Mo_settle_98 rfl ?_
          refine zi_lo [(0, .ref a0), (1, .int x1)] [0, 1] rfl ?_
          exact hr0 a0 x1 q24 h
        · rw [if_pos c21] at h
          refine zi_lo [(0, .ref a0), (1, .int x1)] [0, 1] rfl ?_
          exact K_Mo_settle_b63 n E S r0 a0 x1 m15 M' hr0 h
theorem K_Mo_settle_b0 (n : Nat) (E : zE) (S : zS) (a0 : Nat) (x1 : Int32) (M : zH) (M' : zH)  (h : F_Mo_settle_b0 n E S (a0, x1, M) = some M') : zG E Y_Mo_settle (none, S, M') 0 [(0, .ref a0), (1, .int x1)] [] S M 0 0 := by
  have key : ∀ (k : Nat) (a0 : Nat) (x1 : Int32) (M : zH), zfix (fun r0 s => F_Mo_settle_L0 n E S r0 s.1 s.2.1 s.2.2) k (a0, x1, M) = some M' → zG E Y_Mo_settle (none, S, M') 0 [(0, .ref a0), (1, .int x1)] [] S M 0 0 := by
    intro k
    induction k with
    | zero => intro a0 x1 M h; cases h
    | succ k ih => intro a0 x1 M h; exact K_Mo_settle_L0 n E S _ a0 x1 M M'  (fun a0 x1 M h => ih a0 x1 M h) h
  exact key n a0 x1 M h
theorem K_Mo_settle (n : Nat) (E : zE) (S : zS) (a0 : Nat) (x1 : Int32) (M : zH) (M' : zH)  (h : F_Mo_settle n E S a0 x1 M = some M') : zG E Y_Mo_settle (none, S, M') 0 [(0, .ref a0), (1, .int x1)] [] S M 0 0 := by
  unfold F_Mo_settle at h
  refine zi_aload_n 0 d_Mo_settle_0 rfl ?_
  obtain ⟨v25, ev25, h⟩ := zbind h
  refine zo_getI 4 zkd_11 29 d_Mo_settle_1 ev25 rfl tw_1260 rfl ?_
  refine zi_if_le (tgt := 101) d_Mo_settle_4 rfl (fun c26 => ?_) (fun c26 => ?_)
  · rw [if_pos c26] at h
    cases h
    exact zo_ret d_Mo_settle_101 (Nat.le_of_ble_eq_true rfl) (Nat.le_of_ble_eq_true rfl) rfl
  · rw [if_neg c26] at h
    refine zi_aload_n 0 d_Mo_settle_7 rfl ?_
    obtain ⟨b27, eb27, h⟩ := zbind h
    refine zo_getR 11 zkd_11 27 d_Mo_settle_8 eb27 rfl tw_1258 rfl ?_
    refine zi_aload_n 0 d_Mo_settle_11 rfl ?_
    obtain ⟨v28, ev28, h⟩ := zbind h
    refine zo_getI 15 zkd_11 29 d_Mo_settle_12 ev28 rfl tw_1260 rfl ?_
    refine zi_iconst 1 d_Mo_settle_15 rfl ?_
    refine zi_isub d_Mo_settle_16 ?_
    obtain ⟨v29, ev29, h⟩ := zbind h
    refine zo_iald 18 d_Mo_settle_17 ev29 rfl ?_
    obtain ⟨q30, eq30, h⟩ := zbind h
    refine zo_stat (k' := 0) (n' := 0) 21 [.int v29] [] [.int q30.1] (C_Mo_binds n E S v29 M q30.1 q30.2 eq30) d_Mo_settle_18 tw_1655 tw_1653 tw_1654 tw_13 dd_Mo_binds ⟨Nat.le_of_ble_eq_true rfl, Nat.le_of_ble_eq_true rfl, Nat.le_of_ble_eq_true rfl, Nat.le_of_ble_eq_true rfl⟩ (Nat.le_of_ble_eq_true rfl) rfl rfl rfl rfl ?_
    refine zi_iload_n 1 d_Mo_settle_21 rfl ?_
    refine zi_icmp_lt (tgt := 101) d_Mo_settle_22 rfl (fun c31 => ?_) (fun c31 => ?_)
    · rw [if_pos c31] at h
      cases h
      exact zo_ret d_Mo_settle_101 (Nat.le_of_ble_eq_true rfl) (Nat.le_of_ble_eq_true rfl) rfl
    · rw [if_neg c31] at h
      refine zi_aload_n 0 d_Mo_settle_25 rfl ?_
      refine zi_dup d_Mo_settle_26 rfl ?_
      obtain ⟨v32, ev32, h⟩ := zbind h
      refine zo_getI 30 zkd_11 29 d_Mo_settle_27 ev32 rfl tw_1260 rfl ?_
      refine zi_iconst 1 d_Mo_settle_30 rfl ?_
      refine zi_isub d_Mo_settle_31 ?_
      obtain ⟨m33, em33, h⟩ := zbind h
      refine zo_putI 35 zkd_11 29 d_Mo_settle_32 em33 rfl rfl rfl tw_1260 rfl ?_
      refine zi_aload_n 0 d_Mo_settle_35 rfl ?_
      refine zo_getR 39 zkd_11 27 d_Mo_settle_36 eb27 rfl tw_1258 rfl ?_
      refine zi_aload_n 0 d_Mo_settle_39 rfl ?_
      obtain ⟨v34, ev34, h⟩ := zbind h
      refine zo_getI 43 zkd_11 29 d_Mo_settle_40 ev34 rfl tw_1260 rfl ?_
      obtain ⟨v35, ev35, h⟩ := zbind h
      refine zo_iald 44 d_Mo_settle_43 ev35 rfl ?_
      refine zi_bipush 29 d_Mo_settle_44 rfl ?_
      refine zi_icmp_eq (tgt := 63) d_Mo_settle_46 rfl (fun c36 => ?_) (fun c36 => ?_)
      · rw [if_pos c36] at h
        refine zi_lo [(0, .ref a0), (1, .int x1)] [0, 1] rfl ?_
        exact K_Mo_settle_b63 n E S r0 a0 x1 m33 M' hr0 h
      · rw [if_neg c36] at h
        refine zi_aload_n 0 d_Mo_settle_49 rfl ?_
        refine zo_getR 53 zkd_11 27 d_Mo_settle_50 eb27 rfl tw_1258 rfl ?_
        refine zi_aload_n 0 d_Mo_settle_53 rfl ?_
        obtain ⟨v37, ev37, h⟩ := zbind h
        refine zo_getI 57 zkd_11 29 d_Mo_settle_54 ev37 rfl tw_1260 rfl ?_
        obtain ⟨v38, ev38, h⟩ := zbind h
        refine zo_iald 58 d_Mo_settle_57 ev38 rfl ?_
        refine zi_bipush 30 d_Mo_settle_58 rfl ?_
        refine zi_icmp_ne (tgt := 84) d_Mo_settle_60 rfl (fun c39 => ?_) (fun c39 => ?_)
        · rw [if_neg c39] at h
          refine zi_aload_n 0 d_Mo_settle_84 rfl ?_
          refine zi_aload_n 0 d_Mo_settle_85 rfl ?_
          refine zo_getR 89 zkd_11 27 d_Mo_settle_86 eb27 rfl tw_1258 rfl ?_
          refine zi_aload_n 0 d_Mo_settle_89 rfl ?_
          obtain ⟨v40, ev40, h⟩ := zbind h
          refine zo_getI 93 zkd_11 29 d_Mo_settle_90 ev40 rfl tw_1260 rfl ?_
          obtain ⟨v41, ev41, h⟩ := zbind h
          refine zo_iald 94 d_Mo_settle_93 ev41 rfl ?_
          refine zi_iconst 0 d_Mo_settle_94 rfl ?_
          obtain ⟨q42, eq42, h⟩ := zbind h
          refine zo_virt (k' := 0) (n' := 0) 98 [.int v41, .int 0] [] [] zkd_11 (zgI_s ev25).1 (C_Mo_emit n E S a0 v41 0 m33 q42 eq42) d_Mo_settle_95 tw_1643 tw_1640 tw_1642 ts_69 tw_13 dd_Mo_emit ⟨Nat.le_of_ble_eq_true rfl, Nat.le_of_ble_eq_true rfl, Nat.le_of_ble_eq_true rfl, Nat.le_of_ble_eq_true rfl⟩ (Nat.le_of_ble_eq_true rfl) rfl rfl rfl rfl ?_
          refine zi_goto (tgt := 0) d_Mo_settle_98 rfl ?_
          refine zi_lo [(0, .ref a0), (1, .int x1)] [0, 1] rfl ?_
          exact K_Mo_settle_b0 n E S a0 x1 q42 M'  h
        · rw [if_pos c39] at h
          refine zi_lo [(0, .ref a0), (1, .int x1)] [0, 1] rfl ?_
          exact K_Mo_settle_b63 n E S r0 a0 x1 m33 M' hr0 h
theorem C_Mo_settle (n : Nat) (E : zE) (S : zS) (a0 : Nat) (x1 : Int32) (M : zH) (M' : zH) (h : F_Mo_settle n E S a0 x1 M = some M') : zC E Y_Mo_settle [.ref a0, .int x1] S M (none, S, M') :=
  zC.of (Or.inl (show plainName "NightColanderModel" = true by decide)) (Nat.le_of_ble_eq_true rfl) (trivial) (K_Mo_settle n E S a0 x1 M M' h)
theorem d_Mo_behindSum_0 : decode (yB Y_Mo_behindSum) 0 = .ok (.aload_n 0, 1) := by decide +kernel
theorem d_Mo_behindSum_1 : decode (yB Y_Mo_behindSum) 1 = .ok (.bipush 43, 2) := by decide +kernel
theorem d_Mo_behindSum_3 : decode (yB Y_Mo_behindSum) 3 = .ok (.invokevirtual 325, 3) := by decide +kernel
theorem d_Mo_behindSum_6 : decode (yB Y_Mo_behindSum) 6 = .ok (.ifCond .eq 8, 3) := by decide +kernel
theorem d_Mo_behindSum_9 : decode (yB Y_Mo_behindSum) 9 = .ok (.bipush 20, 2) := by decide +kernel
theorem d_Mo_behindSum_11 : decode (yB Y_Mo_behindSum) 11 = .ok (.goto 60, 3) := by decide +kernel
theorem d_Mo_behindSum_14 : decode (yB Y_Mo_behindSum) 14 = .ok (.aload_n 0, 1) := by decide +kernel
theorem d_Mo_behindSum_15 : decode (yB Y_Mo_behindSum) 15 = .ok (.bipush 45, 2) := by decide +kernel
theorem d_Mo_behindSum_17 : decode (yB Y_Mo_behindSum) 17 = .ok (.invokevirtual 325, 3) := by decide +kernel
theorem d_Mo_behindSum_20 : decode (yB Y_Mo_behindSum) 20 = .ok (.ifCond .eq 8, 3) := by decide +kernel
theorem d_Mo_behindSum_23 : decode (yB Y_Mo_behindSum) 23 = .ok (.bipush 21, 2) := by decide +kernel
theorem d_Mo_behindSum_25 : decode (yB Y_Mo_behindSum) 25 = .ok (.goto 46, 3) := by decide +kernel
theorem d_Mo_behindSum_28 : decode (yB Y_Mo_behindSum) 28 = .ok (.aload_n 0, 1) := by decide +kernel
theorem d_Mo_behindSum_29 : decode (yB Y_Mo_behindSum) 29 = .ok (.bipush 42, 2) := by decide +kernel
theorem d_Mo_behindSum_31 : decode (yB Y_Mo_behindSum) 31 = .ok (.invokevirtual 325, 3) := by decide +kernel
theorem d_Mo_behindSum_34 : decode (yB Y_Mo_behindSum) 34 = .ok (.ifCond .eq 8, 3) := by decide +kernel
theorem d_Mo_behindSum_37 : decode (yB Y_Mo_behindSum) 37 = .ok (.bipush 22, 2) := by decide +kernel
theorem d_Mo_behindSum_39 : decode (yB Y_Mo_behindSum) 39 = .ok (.goto 32, 3) := by decide +kernel
theorem d_Mo_behindSum_42 : decode (yB Y_Mo_behindSum) 42 = .ok (.aload_n 0, 1) := by decide +kernel
theorem d_Mo_behindSum_43 : decode (yB Y_Mo_behindSum) 43 = .ok (.bipush 47, 2) := by decide +kernel
theorem d_Mo_behindSum_45 : decode (yB Y_Mo_behindSum) 45 = .ok (.invokevirtual 325, 3) := by decide +kernel
theorem d_Mo_behindSum_48 : decode (yB Y_Mo_behindSum) 48 = .ok (.ifCond .eq 8, 3) := by decide +kernel
theorem d_Mo_behindSum_51 : decode (yB Y_Mo_behindSum) 51 = .ok (.bipush 23, 2) := by decide +kernel
theorem d_Mo_behindSum_53 : decode (yB Y_Mo_behindSum) 53 = .ok (.goto 18, 3) := by decide +kernel
theorem d_Mo_behindSum_56 : decode (yB Y_Mo_behindSum) 56 = .ok (.aload_n 0, 1) := by decide +kernel
theorem d_Mo_behindSum_57 : decode (yB Y_Mo_behindSum) 57 = .ok (.bipush 37, 2) := by decide +kernel
theorem d_Mo_behindSum_59 : decode (yB Y_Mo_behindSum) 59 = .ok (.invokevirtual 325, 3) := by decide +kernel
theorem d_Mo_behindSum_62 : decode (yB Y_Mo_behindSum) 62 = .ok (.ifCond .eq 8, 3) := by decide +kernel
theorem d_Mo_behindSum_65 : decode (yB Y_Mo_behindSum) 65 = .ok (.bipush 24, 2) := by decide +kernel
theorem d_Mo_behindSum_67 : decode (yB Y_Mo_behindSum) 67 = .ok (.goto 4, 3) := by decide +kernel
theorem d_Mo_behindSum_70 : decode (yB Y_Mo_behindSum) 70 = .ok (.iconst (-1), 1) := by decide +kernel
theorem d_Mo_behindSum_71 : decode (yB Y_Mo_behindSum) 71 = .ok (.istore_n 2, 1) := by decide +kernel
theorem d_Mo_behindSum_72 : decode (yB Y_Mo_behindSum) 72 = .ok (.iload_n 2, 1) := by decide +kernel
theorem d_Mo_behindSum_73 : decode (yB Y_Mo_behindSum) 73 = .ok (.iconst (-1), 1) := by decide +kernel
theorem d_Mo_behindSum_74 : decode (yB Y_Mo_behindSum) 74 = .ok (.if_icmp .eq 23, 3) := by decide +kernel
theorem d_Mo_behindSum_77 : decode (yB Y_Mo_behindSum) 77 = .ok (.aload_n 0, 1) := by decide +kernel
theorem d_Mo_behindSum_78 : decode (yB Y_Mo_behindSum) 78 = .ok (.iload_n 2, 1) := by decide +kernel
theorem d_Mo_behindSum_79 : decode (yB Y_Mo_behindSum) 79 = .ok (.invokestatic 297, 3) := by decide +kernel
theorem d_Mo_behindSum_82 : decode (yB Y_Mo_behindSum) 82 = .ok (.invokevirtual 358, 3) := by decide +kernel
theorem d_Mo_behindSum_85 : decode (yB Y_Mo_behindSum) 85 = .ok (.aload_n 0, 1) := by decide +kernel
theorem d_Mo_behindSum_86 : decode (yB Y_Mo_behindSum) 86 = .ok (.iload_n 2, 1) := by decide +kernel
theorem d_Mo_behindSum_87 : decode (yB Y_Mo_behindSum) 87 = .ok (.iconst 0, 1) := by decide +kernel
theorem d_Mo_behindSum_88 : decode (yB Y_Mo_behindSum) 88 = .ok (.invokevirtual 319, 3) := by decide +kernel
theorem d_Mo_behindSum_91 : decode (yB Y_Mo_behindSum) 91 = .ok (.aload_n 0, 1) := by decide +kernel
theorem d_Mo_behindSum_92 : decode (yB Y_Mo_behindSum) 92 = .ok (.invokevirtual 260, 3) := by decide +kernel
theorem d_Mo_behindSum_95 : decode (yB Y_Mo_behindSum) 95 = .ok (.iconst 1, 1) := by decide +kernel
theorem d_Mo_behindSum_96 : decode (yB Y_Mo_behindSum) 96 = .ok (.ireturn, 1) := by decide +kernel
theorem d_Mo_behindSum_97 : decode (yB Y_Mo_behindSum) 97 = .ok (.aload_n 0, 1) := by decide +kernel
theorem d_Mo_behindSum_98 : decode (yB Y_Mo_behindSum) 98 = .ok (.invokevirtual 361, 3) := by decide +kernel
theorem d_Mo_behindSum_101 : decode (yB Y_Mo_behindSum) 101 = .ok (.istore_n 3, 1) := by decide +kernel
theorem d_Mo_behindSum_102 : decode (yB Y_Mo_behindSum) 102 = .ok (.iload_n 3, 1) := by decide +kernel
theorem d_Mo_behindSum_103 : decode (yB Y_Mo_behindSum) 103 = .ok (.bipush 32, 2) := by decide +kernel
theorem d_Mo_behindSum_105 : decode (yB Y_Mo_behindSum) 105 = .ok (.if_icmp .ne 47, 3) := by decide +kernel
theorem d_Mo_behindSum_108 : decode (yB Y_Mo_behindSum) 108 = .ok (.aload_n 0, 1) := by decide +kernel
theorem d_Mo_behindSum_109 : decode (yB Y_Mo_behindSum) 109 = .ok (.aload_n 0, 1) := by decide +kernel
theorem d_Mo_behindSum_110 : decode (yB Y_Mo_behindSum) 110 = .ok (.bipush 93, 2) := by decide +kernel
theorem d_Mo_behindSum_112 : decode (yB Y_Mo_behindSum) 112 = .ok (.invokevirtual 325, 3) := by decide +kernel
theorem d_Mo_behindSum_115 : decode (yB Y_Mo_behindSum) 115 = .ok (.invokevirtual 287, 3) := by decide +kernel
theorem d_Mo_behindSum_118 : decode (yB Y_Mo_behindSum) 118 = .ok (.aload_n 0, 1) := by decide +kernel
theorem d_Mo_behindSum_119 : decode (yB Y_Mo_behindSum) 119 = .ok (.getfield 256, 3) := by decide +kernel
theorem d_Mo_behindSum_122 : decode (yB Y_Mo_behindSum) 122 = .ok (.ifCond .ne 28, 3) := by decide +kernel
theorem d_Mo_behindSum_125 : decode (yB Y_Mo_behindSum) 125 = .ok (.aload_n 0, 1) := by decide +kernel
theorem d_Mo_behindSum_126 : decode (yB Y_Mo_behindSum) 126 = .ok (.iconst 5, 1) := by decide +kernel
theorem d_Mo_behindSum_127 : decode (yB Y_Mo_behindSum) 127 = .ok (.invokevirtual 358, 3) := by decide +kernel
theorem d_Mo_behindSum_130 : decode (yB Y_Mo_behindSum) 130 = .ok (.aload_n 0, 1) := by decide +kernel
theorem d_Mo_behindSum_131 : decode (yB Y_Mo_behindSum) 131 = .ok (.dup, 1) := by decide +kernel
theorem d_Mo_behindSum_132 : decode (yB Y_Mo_behindSum) 132 = .ok (.getfield 294, 3) := by decide +kernel
theorem d_Mo_behindSum_135 : decode (yB Y_Mo_behindSum) 135 = .ok (.iconst 1, 1) := by decide +kernel
theorem d_Mo_behindSum_136 : decode (yB Y_Mo_behindSum) 136 = .ok (.isub, 1) := by decide +kernel
theorem d_Mo_behindSum_137 : decode (yB Y_Mo_behindSum) 137 = .ok (.putfield 294, 3) := by decide +kernel
theorem d_Mo_behindSum_140 : decode (yB Y_Mo_behindSum) 140 = .ok (.aload_n 0, 1) := by decide +kernel
theorem d_Mo_behindSum_141 : decode (yB Y_Mo_behindSum) 141 = .ok (.dup, 1) := by decide +kernel
theorem d_Mo_behindSum_142 : decode (yB Y_Mo_behindSum) 142 = .ok (.getfield 316, 3) := by decide +kernel
theorem d_Mo_behindSum_145 : decode (yB Y_Mo_behindSum) 145 = .ok (.iconst 1, 1) := by decide +kernel
theorem d_Mo_behindSum_146 : decode (yB Y_Mo_behindSum) 146 = .ok (.isub, 1) := by decide +kernel
theorem d_Mo_behindSum_147 : decode (yB Y_Mo_behindSum) 147 = .ok (.putfield 316, 3) := by decide +kernel
theorem d_Mo_behindSum_150 : decode (yB Y_Mo_behindSum) 150 = .ok (.iconst 3, 1) := by decide +kernel
theorem d_Mo_behindSum_151 : decode (yB Y_Mo_behindSum) 151 = .ok (.ireturn, 1) := by decide +kernel
theorem d_Mo_behindSum_152 : decode (yB Y_Mo_behindSum) 152 = .ok (.iload_n 3, 1) := by decide +kernel
theorem d_Mo_behindSum_153 : decode (yB Y_Mo_behindSum) 153 = .ok (.iconst (-1), 1) := by decide +kernel
theorem d_Mo_behindSum_154 : decode (yB Y_Mo_behindSum) 154 = .ok (.if_icmp .ne 9, 3) := by decide +kernel
theorem d_Mo_behindSum_157 : decode (yB Y_Mo_behindSum) 157 = .ok (.iload_n 1, 1) := by decide +kernel
theorem d_Mo_behindSum_158 : decode (yB Y_Mo_behindSum) 158 = .ok (.ifCond .ne 5, 3) := by decide +kernel
theorem d_Mo_behindSum_161 : decode (yB Y_Mo_behindSum) 161 = .ok (.iconst 4, 1) := by decide +kernel
theorem d_Mo_behindSum_162 : decode (yB Y_Mo_behindSum) 162 = .ok (.ireturn, 1) := by decide +kernel
theorem d_Mo_behindSum_163 : decode (yB Y_Mo_behindSum) 163 = .ok (.aload_n 0, 1) := by decide +kernel
theorem d_Mo_behindSum_164 : decode (yB Y_Mo_behindSum) 164 = .ok (.invokevirtual 364, 3) := by decide +kernel
theorem d_Mo_behindSum_167 : decode (yB Y_Mo_behindSum) 167 = .ok (.ifCond .eq 5, 3) := by decide +kernel
theorem d_Mo_behindSum_170 : decode (yB Y_Mo_behindSum) 170 = .ok (.iconst 2, 1) := by decide +kernel
theorem d_Mo_behindSum_171 : decode (yB Y_Mo_behindSum) 171 = .ok (.ireturn, 1) := by decide +kernel
theorem d_Mo_behindSum_172 : decode (yB Y_Mo_behindSum) 172 = .ok (.aload_n 0, 1) := by decide +kernel
theorem d_Mo_behindSum_173 : decode (yB Y_Mo_behindSum) 173 = .ok (.bipush 60, 2) := by decide +kernel
theorem d_Mo_behindSum_175 : decode (yB Y_Mo_behindSum) 175 = .ok (.invokevirtual 325, 3) := by decide +kernel
theorem d_Mo_behindSum_178 : decode (yB Y_Mo_behindSum) 178 = .ok (.ifCond .eq 8, 3) := by decide +kernel
theorem d_Mo_behindSum_181 : decode (yB Y_Mo_behindSum) 181 = .ok (.bipush 25, 2) := by decide +kernel
theorem d_Mo_behindSum_183 : decode (yB Y_Mo_behindSum) 183 = .ok (.goto 19, 3) := by decide +kernel
theorem d_Mo_behindSum_186 : decode (yB Y_Mo_behindSum) 186 = .ok (.aload_n 0, 1) := by decide +kernel
theorem d_Mo_behindSum_187 : decode (yB Y_Mo_behindSum) 187 = .ok (.bipush 62, 2) := by decide +kernel
theorem d_Mo_behindSum_189 : decode (yB Y_Mo_behindSum) 189 = .ok (.invokevirtual 325, 3) := by decide +kernel
theorem d_Mo_behindSum_192 : decode (yB Y_Mo_behindSum) 192 = .ok (.ifCond .eq 8, 3) := by decide +kernel
theorem d_Mo_behindSum_195 : decode (yB Y_Mo_behindSum) 195 = .ok (.bipush 26, 2) := by decide +kernel
theorem d_Mo_behindSum_197 : decode (yB Y_Mo_behindSum) 197 = .ok (.goto 5, 3) := by decide +kernel
theorem d_Mo_behindSum_200 : decode (yB Y_Mo_behindSum) 200 = .ok (.bipush 27, 2) := by decide +kernel
theorem d_Mo_behindSum_202 : decode (yB Y_Mo_behindSum) 202 = .ok (.istore_n 2, 1) := by decide +kernel
theorem d_Mo_behindSum_203 : decode (yB Y_Mo_behindSum) 203 = .ok (.aload_n 0, 1) := by decide +kernel
theorem d_Mo_behindSum_204 : decode (yB Y_Mo_behindSum) 204 = .ok (.iload_n 2, 1) := by decide +kernel
theorem d_Mo_behindSum_205 : decode (yB Y_Mo_behindSum) 205 = .ok (.bipush 27, 2) := by decide +kernel
theorem d_Mo_behindSum_207 : decode (yB Y_Mo_behindSum) 207 = .ok (.if_icmp .ne 12, 3) := by decide +kernel
theorem d_Mo_behindSum_210 : decode (yB Y_Mo_behindSum) 210 = .ok (.aload_n 0, 1) := by decide +kernel
theorem d_Mo_behindSum_211 : decode (yB Y_Mo_behindSum) 211 = .ok (.bipush 61, 2) := by decide +kernel
theorem d_Mo_behindSum_213 : decode (yB Y_Mo_behindSum) 213 = .ok (.invokevirtual 325, 3) := by decide +kernel
theorem d_Mo_behindSum_216 : decode (yB Y_Mo_behindSum) 216 = .ok (.ifCond .eq 7, 3) := by decide +kernel
theorem d_Mo_behindSum_219 : decode (yB Y_Mo_behindSum) 219 = .ok (.iconst 1, 1) := by decide +kernel
theorem d_Mo_behindSum_220 : decode (yB Y_Mo_behindSum) 220 = .ok (.goto 4, 3) := by decide +kernel
theorem d_Mo_behindSum_223 : decode (yB Y_Mo_behindSum) 223 = .ok (.iconst 0, 1) := by decide +kernel
theorem d_Mo_behindSum_224 : decode (yB Y_Mo_behindSum) 224 = .ok (.invokevirtual 287, 3) := by decide +kernel
theorem d_Mo_behindSum_227 : decode (yB Y_Mo_behindSum) 227 = .ok (.aload_n 0, 1) := by decide +kernel
theorem d_Mo_behindSum_228 : decode (yB Y_Mo_behindSum) 228 = .ok (.getfield 256, 3) := by decide +kernel
theorem d_Mo_behindSum_231 : decode (yB Y_Mo_behindSum) 231 = .ok (.ifCond .ne 14, 3) := by decide +kernel
theorem d_Mo_behindSum_234 : decode (yB Y_Mo_behindSum) 234 = .ok (.aload_n 0, 1) := by decide +kernel
theorem d_Mo_behindSum_235 : decode (yB Y_Mo_behindSum) 235 = .ok (.iconst 5, 1) := by decide +kernel
theorem d_Mo_behindSum_236 : decode (yB Y_Mo_behindSum) 236 = .ok (.invokevirtual 358, 3) := by decide +kernel
theorem d_Mo_behindSum_239 : decode (yB Y_Mo_behindSum) 239 = .ok (.aload_n 0, 1) := by decide +kernel
theorem d_Mo_behindSum_240 : decode (yB Y_Mo_behindSum) 240 = .ok (.iload_n 2, 1) := by decide +kernel
theorem d_Mo_behindSum_241 : decode (yB Y_Mo_behindSum) 241 = .ok (.iconst 0, 1) := by decide +kernel
theorem d_Mo_behindSum_242 : decode (yB Y_Mo_behindSum) 242 = .ok (.invokevirtual 319, 3) := by decide +kernel
theorem d_Mo_behindSum_245 : decode (yB Y_Mo_behindSum) 245 = .ok (.iconst 1, 1) := by decide +kernel
theorem d_Mo_behindSum_246 : decode (yB Y_Mo_behindSum) 246 = .ok (.ireturn, 1) := by decide +kernel
def F_Mo_behindSum_b224 (n : Nat) (E : zE) (S : zS) (a0 : Nat) (x2 : Int32) (s0 : Int32) (u1 : Nat) (M : zH) : Option (Int32 × zH) :=
  (zck S u1 11).bind fun u1 =>
  (F_Mo_must n E S u1 s0 M).bind fun q2 =>
  (zgI S q2 a0 11 19).bind fun v3 =>
  if v3 = 0 then
    (F_Mo_settle n E S a0 5 q2).bind fun q5 =>
    (F_Mo_push n E S a0 x2 0 q5).bind fun q6 =>
    some (1, q6)
  else
    some (1, q2)
def F_Mo_behindSum_b219 (n : Nat) (E : zE) (S : zS) (a0 : Nat) (x2 : Int32) (u0 : Nat) (M : zH) : Option (Int32 × zH) :=
  F_Mo_behindSum_b224 n E S a0 x2 1 u0 M
def F_Mo_behindSum_b202 (n : Nat) (E : zE) (S : zS) (a0 : Nat) (s0 : Int32) (M : zH) : Option (Int32 × zH) :=
  if s0 = 27 then
    (zck S a0 11).bind fun u8 =>
    (F_Mo_isSign n E S a0 61 M).bind fun q9 =>
    if q9.1 = true then
      F_Mo_behindSum_b219 n E S a0 s0 a0 q9.2
    else
      F_Mo_behindSum_b224 n E S a0 s0 0 a0 q9.2
  else
    F_Mo_behindSum_b219 n E S a0 s0 a0 M
def F_Mo_behindSum_b163 (n : Nat) (E : zE) (S : zS) (a0 : Nat) (M : zH) : Option (Int32 × zH) :=
  (zck S a0 11).bind fun u11 =>
  (F_Mo_isCompared n E S a0 M).bind fun q12 =>
  if q12.1 = true then
    some (2, q12.2)
  else
    (F_Mo_isSign n E S a0 60 q12.2).bind fun q14 =>
    if q14.1 = true then
      F_Mo_behindSum_b202 n E S a0 25 q14.2
    else
      (F_Mo_isSign n E S a0 62 q14.2).bind fun q16 =>
      if q16.1 = true then
        F_Mo_behindSum_b202 n E S a0 26 q16.2
      else
        F_Mo_behindSum_b202 n E S a0 27 q16.2
def F_Mo_behindSum_b71 (n : Nat) (E : zE) (S : zS) (a0 : Nat) (x1 : Int32) (s0 : Int32) (M : zH) : Option (Int32 × zH) :=
  if s0 = (-1) then
    (zck S a0 11).bind fun u19 =>
    (F_Mo_inner n E S a0 M).bind fun q20 =>
    if q20.1 = 32 then
      (F_Mo_isSign n E S a0 93 q20.2).bind fun q22 =>
      (F_Mo_must n E S a0 (bI q22.1) q22.2).bind fun q23 =>
      (zgI S q23 a0 11 19).bind fun v24 =>
      if v24 = 0 then
        (F_Mo_settle n E S a0 5 q23).bind fun q26 =>
        (zgI S q26 a0 11 29).bind fun v27 =>
        (zpI S q26 a0 11 29 (v27 - 1)).bind fun m28 =>
        (zgI S m28 a0 11 30).bind fun v29 =>
        (zpI S m28 a0 11 30 (v29 - 1)).bind fun m30 =>
        some (3, m30)
      else
        some (3, q23)
    else
      if q20.1 = (-1) then
        if x1 = 0 then
          some (4, q20.2)
        else
          F_Mo_behindSum_b163 n E S a0 q20.2
      else
        F_Mo_behindSum_b163 n E S a0 q20.2
  else
    (F_Mo_binds n E S s0 M).bind fun q33 =>
    (zck S a0 11).bind fun u34 =>
    (F_Mo_settle n E S a0 q33.1 q33.2).bind fun q35 =>
    (F_Mo_push n E S a0 s0 0 q35).bind fun q36 =>
    (F_Mo_next n E S a0 q36).bind fun q37 =>
    some (1, q37)
def F_Mo_behindSum (n : Nat) (E : zE) (S : zS) (a0 : Nat) (x1 : Int32) (M : zH) : Option (Int32 × zH) :=
  (zck S a0 11).bind fun u38 =>
  (F_Mo_isSign n E S a0 43 M).bind fun q39 =>
  if q39.1 = true then
    F_Mo_behindSum_b71 n E S a0 x1 20 q39.2
  else
    (F_Mo_isSign n E S a0 45 q39.2).bind fun q41 =>
    if q41.1 = true then
      F_Mo_behindSum_b71 n E S a0 x1 21 q41.2
    else
      (F_Mo_isSign n E S a0 42 q41.2).bind fun q43 =>
      if q43.1 = true then
        F_Mo_behindSum_b71 n E S a0 x1 22 q43.2
      else
        (F_Mo_isSign n E S a0 47 q43.2).bind fun q45 =>
        if q45.1 = true then
          F_Mo_behindSum_b71 n E S a0 x1 23 q45.2
        else
          (F_Mo_isSign n E S a0 37 q45.2).bind fun q47 =>
          if q47.1 = true then
            F_Mo_behindSum_b71 n E S a0 x1 24 q47.2
          else
            F_Mo_behindSum_b71 n E S a0 x1 (-1) q47.2
theorem K_Mo_behindSum_b224 (n : Nat) (E : zE) (S : zS) (a0 : Nat) (x2 : Int32) (s0 : Int32) (u1 : Nat) (M : zH) (r : Int32) (M' : zH)  (h : F_Mo_behindSum_b224 n E S a0 x2 s0 u1 M = some (r, M')) : zG E Y_Mo_behindSum (some (.int r), S, M') 224 [(0, .ref a0), (2, .int x2)] [.int s0, .ref u1] S M 0 0 := by
  unfold F_Mo_behindSum_b224 at h
  obtain ⟨u1, eu1, h⟩ := zbind h
  obtain ⟨q2, eq2, h⟩ := zbind h
  refine zo_virt (k' := 0) (n' := 0) 227 [.int s0] [] [] zkd_11 (zck_s eu1) (C_Mo_must n E S u1 s0 M q2 eq2) d_Mo_behindSum_224 tw_1601 tw_1598 tw_1600 ts_59 tw_13 dd_Mo_must ⟨Nat.le_of_ble_eq_true rfl, Nat.le_of_ble_eq_true rfl, Nat.le_of_ble_eq_true rfl, Nat.le_of_ble_eq_true rfl⟩ (Nat.le_of_ble_eq_true rfl) rfl rfl rfl rfl ?_
  refine zi_aload_n 0 d_Mo_behindSum_227 rfl ?_
  obtain ⟨v3, ev3, h⟩ := zbind h
  refine zo_getI 231 zkd_11 19 d_Mo_behindSum_228 ev3 rfl tw_1250 rfl ?_
  refine zi_if_ne (tgt := 245) d_Mo_behindSum_231 rfl (fun c4 => ?_) (fun c4 => ?_)
  · rw [if_neg c4] at h
    refine zi_iconst 1 d_Mo_behindSum_245 rfl ?_
    cases h
    exact zo_ret d_Mo_behindSum_246 (Nat.le_of_ble_eq_true rfl) (Nat.le_of_ble_eq_true rfl) rfl
  · rw [if_pos c4] at h
    refine zi_aload_n 0 d_Mo_behindSum_234 rfl ?_
    refine zi_iconst 5 d_Mo_behindSum_235 rfl ?_
    obtain ⟨q5, eq5, h⟩ := zbind h
    refine zo_virt (k' := 0) (n' := 0) 239 [.int 5] [] [] zkd_11 (zgI_s ev3).1 (C_Mo_settle n E S a0 5 q2 q5 eq5) d_Mo_behindSum_236 tw_1659 tw_1656 tw_1658 ts_72 tw_13 dd_Mo_settle ⟨Nat.le_of_ble_eq_true rfl, Nat.le_of_ble_eq_true rfl, Nat.le_of_ble_eq_true rfl, Nat.le_of_ble_eq_true rfl⟩ (Nat.le_of_ble_eq_true rfl) rfl rfl rfl rfl ?_
    refine zi_aload_n 0 d_Mo_behindSum_239 rfl ?_
    refine zi_iload_n 1 d_Mo_behindSum_240 rfl ?_
    refine zi_iconst 0 d_Mo_behindSum_241 rfl ?_
    obtain ⟨q6, eq6, h⟩ := zbind h
    refine zo_virt (k' := 0) (n' := 0) 245 [.int x2, .int 0] [] [] zkd_11 (zgI_s ev3).1 (C_Mo_push n E S a0 x2 0 q5 q6 eq6) d_Mo_behindSum_242 tw_1614 tw_1611 tw_1613 ts_62 tw_13 dd_Mo_push ⟨Nat.le_of_ble_eq_true rfl, Nat.le_of_ble_eq_true rfl, Nat.le_of_ble_eq_true rfl, Nat.le_of_ble_eq_true rfl⟩ (Nat.le_of_ble_eq_true rfl) rfl rfl rfl rfl ?_
    refine zi_iconst 1 d_Mo_behindSum_245 rfl ?_
    cases h
    exact zo_ret d_Mo_behindSum_246 (Nat.le_of_ble_eq_true rfl) (Nat.le_of_ble_eq_true rfl) rfl
theorem K_Mo_behindSum_b219 (n : Nat) (E : zE) (S : zS) (a0 : Nat) (x2 : Int32) (u0 : Nat) (M : zH) (r : Int32) (M' : zH)  (h : F_Mo_behindSum_b219 n E S a0 x2 u0 M = some (r, M')) : zG E Y_Mo_behindSum (some (.int r), S, M') 219 [(0, .ref a0), (2, .int x2)] [.ref u0] S M 0 0 := by
  unfold F_Mo_behindSum_b219 at h
  refine zi_iconst 1 d_Mo_behindSum_219 rfl ?_
  refine zi_goto (tgt := 224) d_Mo_behindSum_220 rfl ?_
  refine zi_lo [(0, .ref a0), (2, .int x2)] [0, 1] rfl ?_
  exact K_Mo_behindSum_b224 n E S a0 x2 1 u0 M r M'  h
theorem K_Mo_behindSum_b202 (n : Nat) (E : zE) (S : zS) (a0 : Nat) (s0 : Int32) (M : zH) (r : Int32) (M' : zH)  (h : F_Mo_behindSum_b202 n E S a0 s0 M = some (r, M')) : zG E Y_Mo_behindSum (some (.int r), S, M') 202 [(0, .ref a0)] [.int s0] S M 0 0 := by
  unfold F_Mo_behindSum_b202 at h
  refine zi_istore_n [(2, .int s0), (0, .ref a0)] d_Mo_behindSum_202 (by decide) rfl ?_
  refine zi_aload_n 1 d_Mo_behindSum_203 rfl ?_
  refine zi_iload_n 0 d_Mo_behindSum_204 rfl ?_
  refine zi_bipush 27 d_Mo_behindSum_205 rfl ?_
  refine zi_icmp_ne (tgt := 219) d_Mo_behindSum_207 rfl (fun c7 => ?_) (fun c7 => ?_)
  · rw [if_neg c7] at h
    refine zi_lo [(0, .ref a0), (2, .int s0)] [1, 0] rfl ?_
    exact K_Mo_behindSum_b219 n E S a0 s0 a0 M r M'  h
  · rw [if_pos c7] at h
    refine zi_aload_n 1 d_Mo_behindSum_210 rfl ?_
    refine zi_bipush 61 d_Mo_behindSum_211 rfl ?_
    obtain ⟨u8, eu8, h⟩ := zbind h
    obtain ⟨q9, eq9, h⟩ := zbind h
    refine zo_virt (k' := 0) (n' := 0) 216 [.int 61] [.ref a0] [.int (bI q9.1), .ref a0] zkd_11 (zck_s eu8) (C_Mo_isSign n E S a0 61 M q9.1 q9.2 eq9) d_Mo_behindSum_213 tw_1618 tw_1615 tw_1617 ts_63 tw_13 dd_Mo_isSign ⟨Nat.le_of_ble_eq_true rfl, Nat.le_of_ble_eq_true rfl, Nat.le_of_ble_eq_true rfl, Nat.le_of_ble_eq_true rfl⟩ (Nat.le_of_ble_eq_true rfl) rfl rfl rfl rfl ?_
    refine zo_ifeqB d_Mo_behindSum_216 rfl 219 rfl (fun c10 => ?_) (fun c10 => ?_)
    · rw [if_neg c10] at h
      refine zi_iconst 0 d_Mo_behindSum_223 rfl ?_
      refine zi_lo [(0, .ref a0), (2, .int s0)] [1, 0] rfl ?_
      exact K_Mo_behindSum_b224 n E S a0 s0 0 a0 q9.2 r M'  h
    · rw [if_pos c10] at h
      refine zi_lo [(0, .ref a0), (2, .int s0)] [1, 0] rfl ?_
      exact K_Mo_behindSum_b219 n E S a0 s0 a0 q9.2 r M'  h
theorem K_Mo_behindSum_b163 (n : Nat) (E : zE) (S : zS) (a0 : Nat) (M : zH) (r : Int32) (M' : zH)  (h : F_Mo_behindSum_b163 n E S a0 M = some (r, M')) : zG E Y_Mo_behindSum (some (.int r), S, M') 163 [(0, .ref a0)] [] S M 0 0 := by
  unfold F_Mo_behindSum_b163 at h
  refine zi_aload_n 0 d_Mo_behindSum_163 rfl ?_
  obtain ⟨u11, eu11, h⟩ := zbind h
  obtain ⟨q12, eq12, h⟩ := zbind h
  refine zo_virt (k' := 0) (n' := 0) 167 [] [] [.int (bI q12.1)] zkd_11 (zck_s eu11) (C_Mo_isCompared n E S a0 M q12.1 q12.2 eq12) d_Mo_behindSum_164 tw_1667 tw_1664 tw_1666 ts_74 tw_13 dd_Mo_isCompared ⟨Nat.le_of_ble_eq_true rfl, Nat.le_of_ble_eq_true rfl, Nat.le_of_ble_eq_true rfl, Nat.le_of_ble_eq_true rfl⟩ (Nat.le_of_ble_eq_true rfl) rfl rfl rfl rfl ?_
  refine zo_ifeqB d_Mo_behindSum_167 rfl 170 rfl (fun c13 => ?_) (fun c13 => ?_)
  · rw [if_neg c13] at h
    refine zi_aload_n 0 d_Mo_behindSum_172 rfl ?_
    refine zi_bipush 60 d_Mo_behindSum_173 rfl ?_
    obtain ⟨q14, eq14, h⟩ := zbind h
    refine zo_virt (k' := 0) (n' := 0) 178 [.int 60] [] [.int (bI q14.1)] zkd_11 (zck_s eu11) (C_Mo_isSign n E S a0 60 q12.2 q14.1 q14.2 eq14) d_Mo_behindSum_175 tw_1618 tw_1615 tw_1617 ts_63 tw_13 dd_Mo_isSign ⟨Nat.le_of_ble_eq_true rfl, Nat.le_of_ble_eq_true rfl, Nat.le_of_ble_eq_true rfl, Nat.le_of_ble_eq_true rfl⟩ (Nat.le_of_ble_eq_true rfl) rfl rfl rfl rfl ?_
    refine zo_ifeqB d_Mo_behindSum_178 rfl 181 rfl (fun c15 => ?_) (fun c15 => ?_)
    · rw [if_neg c15] at h
      refine zi_aload_n 0 d_Mo_behindSum_186 rfl ?_
      refine zi_bipush 62 d_Mo_behindSum_187 rfl ?_
      obtain ⟨q16, eq16, h⟩ := zbind h
      refine zo_virt (k' := 0) (n' := 0) 192 [.int 62] [] [.int (bI q16.1)] zkd_11 (zck_s eu11) (C_Mo_isSign n E S a0 62 q14.2 q16.1 q16.2 eq16) d_Mo_behindSum_189 tw_1618 tw_1615 tw_1617 ts_63 tw_13 dd_Mo_isSign ⟨Nat.le_of_ble_eq_true rfl, Nat.le_of_ble_eq_true rfl, Nat.le_of_ble_eq_true rfl, Nat.le_of_ble_eq_true rfl⟩ (Nat.le_of_ble_eq_true rfl) rfl rfl rfl rfl ?_
      refine zo_ifeqB d_Mo_behindSum_192 rfl 195 rfl (fun c17 => ?_) (fun c17 => ?_)
      · rw [if_neg c17] at h
        refine zi_bipush 27 d_Mo_behindSum_200 rfl ?_
        refine zi_lo [(0, .ref a0)] [0] rfl ?_
        exact K_Mo_behindSum_b202 n E S a0 27 q16.2 r M'  h
      · rw [if_pos c17] at h
        refine zi_bipush 26 d_Mo_behindSum_195 rfl ?_
        refine zi_goto (tgt := 202) d_Mo_behindSum_197 rfl ?_
        refine zi_lo [(0, .ref a0)] [0] rfl ?_
        exact K_Mo_behindSum_b202 n E S a0 26 q16.2 r M'  h
    · rw [if_pos c15] at h
      refine zi_bipush 25 d_Mo_behindSum_181 rfl ?_
      refine zi_goto (tgt := 202) d_Mo_behindSum_183 rfl ?_
      refine zi_lo [(0, .ref a0)] [0] rfl ?_
      exact K_Mo_behindSum_b202 n E S a0 25 q14.2 r M'  h
  · rw [if_pos c13] at h
    refine zi_iconst 2 d_Mo_behindSum_170 rfl ?_
    cases h
    exact zo_ret d_Mo_behindSum_171 (Nat.le_of_ble_eq_true rfl) (Nat.le_of_ble_eq_true rfl) rfl
theorem K_Mo_behindSum_b71 (n : Nat) (E : zE) (S : zS) (a0 : Nat) (x1 : Int32) (s0 : Int32) (M : zH) (r : Int32) (M' : zH)  (h : F_Mo_behindSum_b71 n E S a0 x1 s0 M = some (r, M')) : zG E Y_Mo_behindSum (some (.int r), S, M') 71 [(0, .ref a0), (1, .int x1)] [.int s0] S M 0 0 := by
  unfold F_Mo_behindSum_b71 at h
  refine zi_istore_n [(2, .int s0), (0, .ref a0), (1, .int x1)] d_Mo_behindSum_71 (by decide) rfl ?_
  refine zi_iload_n 0 d_Mo_behindSum_72 rfl ?_
  refine zi_iconst (-1) d_Mo_behindSum_73 rfl ?_
  refine zi_icmp_eq (tgt := 97) d_Mo_behindSum_74 rfl (fun c18 => ?_) (fun c18 => ?_)
  · rw [if_pos c18] at h
    refine zi_aload_n 1 d_Mo_behindSum_97 rfl ?_
    obtain ⟨u19, eu19, h⟩ := zbind h
    obtain ⟨q20, eq20, h⟩ := zbind h
    refine zo_virt (k' := 0) (n' := 0) 101 [] [] [.int q20.1] zkd_11 (zck_s eu19) (C_Mo_inner n E S a0 M q20.1 q20.2 eq20) d_Mo_behindSum_98 tw_1663 tw_1660 tw_1662 ts_73 tw_13 dd_Mo_inner ⟨Nat.le_of_ble_eq_true rfl, Nat.le_of_ble_eq_true rfl, Nat.le_of_ble_eq_true rfl, Nat.le_of_ble_eq_true rfl⟩ (Nat.le_of_ble_eq_true rfl) rfl rfl rfl rfl ?_
    refine zi_istore_n [(3, .int q20.1), (2, .int s0), (0, .ref a0), (1, .int x1)] d_Mo_behindSum_101 (by decide) rfl ?_
    refine zi_iload_n 0 d_Mo_behindSum_102 rfl ?_
    refine zi_bipush 32 d_Mo_behindSum_103 rfl ?_
    refine zi_icmp_ne (tgt := 152) d_Mo_behindSum_105 rfl (fun c21 => ?_) (fun c21 => ?_)
    · rw [if_neg c21] at h
      refine zi_iload_n 0 d_Mo_behindSum_152 rfl ?_
      refine zi_iconst (-1) d_Mo_behindSum_153 rfl ?_
      refine zi_icmp_ne (tgt := 163) d_Mo_behindSum_154 rfl (fun c31 => ?_) (fun c31 => ?_)
      · rw [if_neg c31] at h
        refine zi_lo [(0, .ref a0)] [2] rfl ?_
        exact K_Mo_behindSum_b163 n E S a0 q20.2 r M'  h
      · rw [if_pos c31] at h
        refine zi_iload_n 3 d_Mo_behindSum_157 rfl ?_
        refine zi_if_ne (tgt := 163) d_Mo_behindSum_158 rfl (fun c32 => ?_) (fun c32 => ?_)
        · rw [if_neg c32] at h
          refine zi_lo [(0, .ref a0)] [2] rfl ?_
          exact K_Mo_behindSum_b163 n E S a0 q20.2 r M'  h
        · rw [if_pos c32] at h
          refine zi_iconst 4 d_Mo_behindSum_161 rfl ?_
          cases h
          exact zo_ret d_Mo_behindSum_162 (Nat.le_of_ble_eq_true rfl) (Nat.le_of_ble_eq_true rfl) rfl
    · rw [if_pos c21] at h
      refine zi_aload_n 2 d_Mo_behindSum_108 rfl ?_
      refine zi_aload_n 2 d_Mo_behindSum_109 rfl ?_
      refine zi_bipush 93 d_Mo_behindSum_110 rfl ?_
      obtain ⟨q22, eq22, h⟩ := zbind h
      refine zo_virt (k' := 0) (n' := 0) 115 [.int 93] [.ref a0] [.int (bI q22.1), .ref a0] zkd_11 (zck_s eu19) (C_Mo_isSign n E S a0 93 q20.2 q22.1 q22.2 eq22) d_Mo_behindSum_112 tw_1618 tw_1615 tw_1617 ts_63 tw_13 dd_Mo_isSign ⟨Nat.le_of_ble_eq_true rfl, Nat.le_of_ble_eq_true rfl, Nat.le_of_ble_eq_true rfl, Nat.le_of_ble_eq_true rfl⟩ (Nat.le_of_ble_eq_true rfl) rfl rfl rfl rfl ?_
      obtain ⟨q23, eq23, h⟩ := zbind h
      refine zo_virt (k' := 0) (n' := 0) 118 [.int (bI q22.1)] [] [] zkd_11 (zck_s eu19) (C_Mo_must n E S a0 (bI q22.1) q22.2 q23 eq23) d_Mo_behindSum_115 tw_1601 tw_1598 tw_1600 ts_59 tw_13 dd_Mo_must ⟨Nat.le_of_ble_eq_true rfl, Nat.le_of_ble_eq_true rfl, Nat.le_of_ble_eq_true rfl, Nat.le_of_ble_eq_true rfl⟩ (Nat.le_of_ble_eq_true rfl) rfl rfl rfl rfl ?_
      refine zi_aload_n 2 d_Mo_behindSum_118 rfl ?_
      obtain ⟨v24, ev24, h⟩ := zbind h
      refine zo_getI 122 zkd_11 19 d_Mo_behindSum_119 ev24 rfl tw_1250 rfl ?_
      refine zi_if_ne (tgt := 150) d_Mo_behindSum_122 rfl (fun c25 => ?_) (fun c25 => ?_)
      · rw [if_neg c25] at h
        refine zi_iconst 3 d_Mo_behindSum_150 rfl ?_
        cases h
        exact zo_ret d_Mo_behindSum_151 (Nat.le_of_ble_eq_true rfl) (Nat.le_of_ble_eq_true rfl) rfl
      · rw [if_pos c25] at h
        refine zi_aload_n 2 d_Mo_behindSum_125 rfl ?_
        refine zi_iconst 5 d_Mo_behindSum_126 rfl ?_
        obtain ⟨q26, eq26, h⟩ := zbind h
        refine zo_virt (k' := 0) (n' := 0) 130 [.int 5] [] [] zkd_11 (zck_s eu19) (C_Mo_settle n E S a0 5 q23 q26 eq26) d_Mo_behindSum_127 tw_1659 tw_1656 tw_1658 ts_72 tw_13 dd_Mo_settle ⟨Nat.le_of_ble_eq_true rfl, Nat.le_of_ble_eq_true rfl, Nat.le_of_ble_eq_true rfl, Nat.le_of_ble_eq_true rfl⟩ (Nat.le_of_ble_eq_true rfl) rfl rfl rfl rfl ?_
        refine zi_aload_n 2 d_Mo_behindSum_130 rfl ?_
        refine zi_dup d_Mo_behindSum_131 rfl ?_
        obtain ⟨v27, ev27, h⟩ := zbind h
        refine zo_getI 135 zkd_11 29 d_Mo_behindSum_132 ev27 rfl tw_1260 rfl ?_
        refine zi_iconst 1 d_Mo_behindSum_135 rfl ?_
        refine zi_isub d_Mo_behindSum_136 ?_
        obtain ⟨m28, em28, h⟩ := zbind h
        refine zo_putI 140 zkd_11 29 d_Mo_behindSum_137 em28 rfl rfl rfl tw_1260 rfl ?_
        refine zi_aload_n 2 d_Mo_behindSum_140 rfl ?_
        refine zi_dup d_Mo_behindSum_141 rfl ?_
        obtain ⟨v29, ev29, h⟩ := zbind h
        refine zo_getI 145 zkd_11 30 d_Mo_behindSum_142 ev29 rfl tw_1261 rfl ?_
        refine zi_iconst 1 d_Mo_behindSum_145 rfl ?_
        refine zi_isub d_Mo_behindSum_146 ?_
        obtain ⟨m30, em30, h⟩ := zbind h
        refine zo_putI 150 zkd_11 30 d_Mo_behindSum_147 em30 rfl rfl rfl tw_1261 rfl ?_
        refine zi_iconst 3 d_Mo_behindSum_150 rfl ?_
        cases h
        exact zo_ret d_Mo_behindSum_151 (Nat.le_of_ble_eq_true rfl) (Nat.le_of_ble_eq_true rfl) rfl
  · rw [if_neg c18] at h
    refine zi_aload_n 1 d_Mo_behindSum_77 rfl ?_
    refine zi_iload_n 0 d_Mo_behindSum_78 rfl ?_
    obtain ⟨q33, eq33, h⟩ := zbind h
    refine zo_stat (k' := 0) (n' := 0) 82 [.int s0] [.ref a0] [.int q33.1, .ref a0] (C_Mo_binds n E S s0 M q33.1 q33.2 eq33) d_Mo_behindSum_79 tw_1655 tw_1653 tw_1654 tw_13 dd_Mo_binds ⟨Nat.le_of_ble_eq_true rfl, Nat.le_of_ble_eq_true rfl, Nat.le_of_ble_eq_true rfl, Nat.le_of_ble_eq_true rfl⟩ (Nat.le_of_ble_eq_true rfl) rfl rfl rfl rfl ?_
    obtain ⟨u34, eu34, h⟩ := zbind h
    obtain ⟨q35, eq35, h⟩ := zbind h
    refine zo_virt (k' := 0) (n' := 0) 85 [.int q33.1] [] [] zkd_11 (zck_s eu34) (C_Mo_settle n E S a0 q33.1 q33.2 q35 eq35) d_Mo_behindSum_82 tw_1659 tw_1656 tw_1658 ts_72 tw_13 dd_Mo_settle ⟨Nat.le_of_ble_eq_true rfl, Nat.le_of_ble_eq_true rfl, Nat.le_of_ble_eq_true rfl, Nat.le_of_ble_eq_true rfl⟩ (Nat.le_of_ble_eq_true rfl) rfl rfl rfl rfl ?_
    refine zi_aload_n 1 d_Mo_behindSum_85 rfl ?_
    refine zi_iload_n 0 d_Mo_behindSum_86 rfl ?_
    refine zi_iconst 0 d_Mo_behindSum_87 rfl ?_
    obtain ⟨q36, eq36, h⟩ := zbind h
    refine zo_virt (k' := 0) (n' := 0) 91 [.int s0, .int 0] [] [] zkd_11 (zck_s eu34) (C_Mo_push n E S a0 s0 0 q35 q36 eq36) d_Mo_behindSum_88 tw_1614 tw_1611 tw_1613 ts_62 tw_13 dd_Mo_push ⟨Nat.le_of_ble_eq_true rfl, Nat.le_of_ble_eq_true rfl, Nat.le_of_ble_eq_true rfl, Nat.le_of_ble_eq_true rfl⟩ (Nat.le_of_ble_eq_true rfl) rfl rfl rfl rfl ?_
    refine zi_aload_n 1 d_Mo_behindSum_91 rfl ?_
    obtain ⟨q37, eq37, h⟩ := zbind h
    refine zo_virt (k' := 0) (n' := 0) 95 [] [] [] zkd_11 (zck_s eu34) (C_Mo_next n E S a0 q36 q37 eq37) d_Mo_behindSum_92 tw_1579 tw_1576 tw_1578 ts_56 tw_13 dd_Mo_next ⟨Nat.le_of_ble_eq_true rfl, Nat.le_of_ble_eq_true rfl, Nat.le_of_ble_eq_true rfl, Nat.le_of_ble_eq_true rfl⟩ (Nat.le_of_ble_eq_true rfl) rfl rfl rfl rfl ?_
    refine zi_iconst 1 d_Mo_behindSum_95 rfl ?_
    cases h
    exact zo_ret d_Mo_behindSum_96 (Nat.le_of_ble_eq_true rfl) (Nat.le_of_ble_eq_true rfl) rfl
theorem K_Mo_behindSum (n : Nat) (E : zE) (S : zS) (a0 : Nat) (x1 : Int32) (M : zH) (r : Int32) (M' : zH)  (h : F_Mo_behindSum n E S a0 x1 M = some (r, M')) : zG E Y_Mo_behindSum (some (.int r), S, M') 0 [(0, .ref a0), (1, .int x1)] [] S M 0 0 := by
  unfold F_Mo_behindSum at h
  refine zi_aload_n 0 d_Mo_behindSum_0 rfl ?_
  refine zi_bipush 43 d_Mo_behindSum_1 rfl ?_
  obtain ⟨u38, eu38, h⟩ := zbind h
  obtain ⟨q39, eq39, h⟩ := zbind h
  refine zo_virt (k' := 0) (n' := 0) 6 [.int 43] [] [.int (bI q39.1)] zkd_11 (zck_s eu38) (C_Mo_isSign n E S a0 43 M q39.1 q39.2 eq39) d_Mo_behindSum_3 tw_1618 tw_1615 tw_1617 ts_63 tw_13 dd_Mo_isSign ⟨Nat.le_of_ble_eq_true rfl, Nat.le_of_ble_eq_true rfl, Nat.le_of_ble_eq_true rfl, Nat.le_of_ble_eq_true rfl⟩ (Nat.le_of_ble_eq_true rfl) rfl rfl rfl rfl ?_
  refine zo_ifeqB d_Mo_behindSum_6 rfl 9 rfl (fun c40 => ?_) (fun c40 => ?_)
  · rw [if_neg c40] at h
    refine zi_aload_n 0 d_Mo_behindSum_14 rfl ?_
    refine zi_bipush 45 d_Mo_behindSum_15 rfl ?_
    obtain ⟨q41, eq41, h⟩ := zbind h
    refine zo_virt (k' := 0) (n' := 0) 20 [.int 45] [] [.int (bI q41.1)] zkd_11 (zck_s eu38) (C_Mo_isSign n E S a0 45 q39.2 q41.1 q41.2 eq41) d_Mo_behindSum_17 tw_1618 tw_1615 tw_1617 ts_63 tw_13 dd_Mo_isSign ⟨Nat.le_of_ble_eq_true rfl, Nat.le_of_ble_eq_true rfl, Nat.le_of_ble_eq_true rfl, Nat.le_of_ble_eq_true rfl⟩ (Nat.le_of_ble_eq_true rfl) rfl rfl rfl rfl ?_
    refine zo_ifeqB d_Mo_behindSum_20 rfl 23 rfl (fun c42 => ?_) (fun c42 => ?_)
    · rw [if_neg c42] at h
      refine zi_aload_n 0 d_Mo_behindSum_28 rfl ?_
      refine zi_bipush 42 d_Mo_behindSum_29 rfl ?_
      obtain ⟨q43, eq43, h⟩ := zbind h
      refine zo_virt (k' := 0) (n' := 0) 34 [.int 42] [] [.int (bI q43.1)] zkd_11 (zck_s eu38) (C_Mo_isSign n E S a0 42 q41.2 q43.1 q43.2 eq43) d_Mo_behindSum_31 tw_1618 tw_1615 tw_1617 ts_63 tw_13 dd_Mo_isSign ⟨Nat.le_of_ble_eq_true rfl, Nat.le_of_ble_eq_true rfl, Nat.le_of_ble_eq_true rfl, Nat.le_of_ble_eq_true rfl⟩ (Nat.le_of_ble_eq_true rfl) rfl rfl rfl rfl ?_
      refine zo_ifeqB d_Mo_behindSum_34 rfl 37 rfl (fun c44 => ?_) (fun c44 => ?_)
      · rw [if_neg c44] at h
        refine zi_aload_n 0 d_Mo_behindSum_42 rfl ?_
        refine zi_bipush 47 d_Mo_behindSum_43 rfl ?_
        obtain ⟨q45, eq45, h⟩ := zbind h
        refine zo_virt (k' := 0) (n' := 0) 48 [.int 47] [] [.int (bI q45.1)] zkd_11 (zck_s eu38) (C_Mo_isSign n E S a0 47 q43.2 q45.1 q45.2 eq45) d_Mo_behindSum_45 tw_1618 tw_1615 tw_1617 ts_63 tw_13 dd_Mo_isSign ⟨Nat.le_of_ble_eq_true rfl, Nat.le_of_ble_eq_true rfl, Nat.le_of_ble_eq_true rfl, Nat.le_of_ble_eq_true rfl⟩ (Nat.le_of_ble_eq_true rfl) rfl rfl rfl rfl ?_
        refine zo_ifeqB d_Mo_behindSum_48 rfl 51 rfl (fun c46 => ?_) (fun c46 => ?_)
        · rw [if_neg c46] at h
          refine zi_aload_n 0 d_Mo_behindSum_56 rfl ?_
          refine zi_bipush 37 d_Mo_behindSum_57 rfl ?_
          obtain ⟨q47, eq47, h⟩ := zbind h
          refine zo_virt (k' := 0) (n' := 0) 62 [.int 37] [] [.int (bI q47.1)] zkd_11 (zck_s eu38) (C_Mo_isSign n E S a0 37 q45.2 q47.1 q47.2 eq47) d_Mo_behindSum_59 tw_1618 tw_1615 tw_1617 ts_63 tw_13 dd_Mo_isSign ⟨Nat.le_of_ble_eq_true rfl, Nat.le_of_ble_eq_true rfl, Nat.le_of_ble_eq_true rfl, Nat.le_of_ble_eq_true rfl⟩ (Nat.le_of_ble_eq_true rfl) rfl rfl rfl rfl ?_
          refine zo_ifeqB d_Mo_behindSum_62 rfl 65 rfl (fun c48 => ?_) (fun c48 => ?_)
          · rw [if_neg c48] at h
            refine zi_iconst (-1) d_Mo_behindSum_70 rfl ?_
            refine zi_lo [(0, .ref a0), (1, .int x1)] [0, 1] rfl ?_
            exact K_Mo_behindSum_b71 n E S a0 x1 (-1) q47.2 r M'  h
          · rw [if_pos c48] at h
            refine zi_bipush 24 d_Mo_behindSum_65 rfl ?_
            refine zi_goto (tgt := 71) d_Mo_behindSum_67 rfl ?_
            refine zi_lo [(0, .ref a0), (1, .int x1)] [0, 1] rfl ?_
            exact K_Mo_behindSum_b71 n E S a0 x1 24 q47.2 r M'  h
        · rw [if_pos c46] at h
          refine zi_bipush 23 d_Mo_behindSum_51 rfl ?_
          refine zi_goto (tgt := 71) d_Mo_behindSum_53 rfl ?_
          refine zi_lo [(0, .ref a0), (1, .int x1)] [0, 1] rfl ?_
          exact K_Mo_behindSum_b71 n E S a0 x1 23 q45.2 r M'  h
      · rw [if_pos c44] at h
        refine zi_bipush 22 d_Mo_behindSum_37 rfl ?_
        refine zi_goto (tgt := 71) d_Mo_behindSum_39 rfl ?_
        refine zi_lo [(0, .ref a0), (1, .int x1)] [0, 1] rfl ?_
        exact K_Mo_behindSum_b71 n E S a0 x1 22 q43.2 r M'  h
    · rw [if_pos c42] at h
      refine zi_bipush 21 d_Mo_behindSum_23 rfl ?_
      refine zi_goto (tgt := 71) d_Mo_behindSum_25 rfl ?_
      refine zi_lo [(0, .ref a0), (1, .int x1)] [0, 1] rfl ?_
      exact K_Mo_behindSum_b71 n E S a0 x1 21 q41.2 r M'  h
  · rw [if_pos c40] at h
    refine zi_bipush 20 d_Mo_behindSum_9 rfl ?_
    refine zi_goto (tgt := 71) d_Mo_behindSum_11 rfl ?_
    refine zi_lo [(0, .ref a0), (1, .int x1)] [0, 1] rfl ?_
    exact K_Mo_behindSum_b71 n E S a0 x1 20 q39.2 r M'  h
theorem C_Mo_behindSum (n : Nat) (E : zE) (S : zS) (a0 : Nat) (x1 : Int32) (M : zH) (r : Int32) (M' : zH) (h : F_Mo_behindSum n E S a0 x1 M = some (r, M')) : zC E Y_Mo_behindSum [.ref a0, .int x1] S M (some (.int r), S, M') :=
  zC.of (Or.inl (show plainName "NightColanderModel" = true by decide)) (Nat.le_of_ble_eq_true rfl) (trivial) (K_Mo_behindSum n E S a0 x1 M r M' h)
theorem d_Mo_behindTest_0 : decode (yB Y_Mo_behindTest) 0 = .ok (.aload_n 0, 1) := by decide +kernel
theorem d_Mo_behindTest_1 : decode (yB Y_Mo_behindTest) 1 = .ok (.ldc2_w 368, 3) := by decide +kernel
theorem d_Mo_behindTest_4 : decode (yB Y_Mo_behindTest) 4 = .ok (.invokevirtual 312, 3) := by decide +kernel
theorem d_Mo_behindTest_7 : decode (yB Y_Mo_behindTest) 7 = .ok (.istore_n 1, 1) := by decide +kernel
theorem d_Mo_behindTest_8 : decode (yB Y_Mo_behindTest) 8 = .ok (.iload_n 1, 1) := by decide +kernel
theorem d_Mo_behindTest_9 : decode (yB Y_Mo_behindTest) 9 = .ok (.ifCond .ne 13, 3) := by decide +kernel
theorem d_Mo_behindTest_12 : decode (yB Y_Mo_behindTest) 12 = .ok (.aload_n 0, 1) := by decide +kernel
theorem d_Mo_behindTest_13 : decode (yB Y_Mo_behindTest) 13 = .ok (.ldc2_w 370, 3) := by decide +kernel
theorem d_Mo_behindTest_16 : decode (yB Y_Mo_behindTest) 16 = .ok (.invokevirtual 312, 3) := by decide +kernel
theorem d_Mo_behindTest_19 : decode (yB Y_Mo_behindTest) 19 = .ok (.ifCond .eq 57, 3) := by decide +kernel
theorem d_Mo_behindTest_22 : decode (yB Y_Mo_behindTest) 22 = .ok (.aload_n 0, 1) := by decide +kernel
theorem d_Mo_behindTest_23 : decode (yB Y_Mo_behindTest) 23 = .ok (.iload_n 1, 1) := by decide +kernel
theorem d_Mo_behindTest_24 : decode (yB Y_Mo_behindTest) 24 = .ok (.ifCond .eq 7, 3) := by decide +kernel
theorem d_Mo_behindTest_27 : decode (yB Y_Mo_behindTest) 27 = .ok (.iconst 2, 1) := by decide +kernel
theorem d_Mo_behindTest_28 : decode (yB Y_Mo_behindTest) 28 = .ok (.goto 4, 3) := by decide +kernel
theorem d_Mo_behindTest_31 : decode (yB Y_Mo_behindTest) 31 = .ok (.iconst 1, 1) := by decide +kernel
theorem d_Mo_behindTest_32 : decode (yB Y_Mo_behindTest) 32 = .ok (.invokevirtual 358, 3) := by decide +kernel
theorem d_Mo_behindTest_35 : decode (yB Y_Mo_behindTest) 35 = .ok (.aload_n 0, 1) := by decide +kernel
theorem d_Mo_behindTest_36 : decode (yB Y_Mo_behindTest) 36 = .ok (.iload_n 1, 1) := by decide +kernel
theorem d_Mo_behindTest_37 : decode (yB Y_Mo_behindTest) 37 = .ok (.ifCond .eq 8, 3) := by decide +kernel
theorem d_Mo_behindTest_40 : decode (yB Y_Mo_behindTest) 40 = .ok (.bipush 29, 2) := by decide +kernel
theorem d_Mo_behindTest_42 : decode (yB Y_Mo_behindTest) 42 = .ok (.goto 5, 3) := by decide +kernel
theorem d_Mo_behindTest_45 : decode (yB Y_Mo_behindTest) 45 = .ok (.bipush 30, 2) := by decide +kernel
theorem d_Mo_behindTest_47 : decode (yB Y_Mo_behindTest) 47 = .ok (.aload_n 0, 1) := by decide +kernel
theorem d_Mo_behindTest_48 : decode (yB Y_Mo_behindTest) 48 = .ok (.getfield 291, 3) := by decide +kernel
theorem d_Mo_behindTest_51 : decode (yB Y_Mo_behindTest) 51 = .ok (.invokevirtual 319, 3) := by decide +kernel
theorem d_Mo_behindTest_54 : decode (yB Y_Mo_behindTest) 54 = .ok (.aload_n 0, 1) := by decide +kernel
theorem d_Mo_behindTest_55 : decode (yB Y_Mo_behindTest) 55 = .ok (.iload_n 1, 1) := by decide +kernel
theorem d_Mo_behindTest_56 : decode (yB Y_Mo_behindTest) 56 = .ok (.ifCond .eq 8, 3) := by decide +kernel
theorem d_Mo_behindTest_59 : decode (yB Y_Mo_behindTest) 59 = .ok (.bipush 29, 2) := by decide +kernel
theorem d_Mo_behindTest_61 : decode (yB Y_Mo_behindTest) 61 = .ok (.goto 5, 3) := by decide +kernel
theorem d_Mo_behindTest_64 : decode (yB Y_Mo_behindTest) 64 = .ok (.bipush 30, 2) := by decide +kernel
theorem d_Mo_behindTest_66 : decode (yB Y_Mo_behindTest) 66 = .ok (.iconst 0, 1) := by decide +kernel
theorem d_Mo_behindTest_67 : decode (yB Y_Mo_behindTest) 67 = .ok (.invokevirtual 300, 3) := by decide +kernel
theorem d_Mo_behindTest_70 : decode (yB Y_Mo_behindTest) 70 = .ok (.aload_n 0, 1) := by decide +kernel
theorem d_Mo_behindTest_71 : decode (yB Y_Mo_behindTest) 71 = .ok (.invokevirtual 260, 3) := by decide +kernel
theorem d_Mo_behindTest_74 : decode (yB Y_Mo_behindTest) 74 = .ok (.iconst 0, 1) := by decide +kernel
theorem d_Mo_behindTest_75 : decode (yB Y_Mo_behindTest) 75 = .ok (.ireturn, 1) := by decide +kernel
theorem d_Mo_behindTest_76 : decode (yB Y_Mo_behindTest) 76 = .ok (.aload_n 0, 1) := by decide +kernel
theorem d_Mo_behindTest_77 : decode (yB Y_Mo_behindTest) 77 = .ok (.invokevirtual 361, 3) := by decide +kernel
theorem d_Mo_behindTest_80 : decode (yB Y_Mo_behindTest) 80 = .ok (.iconst (-1), 1) := by decide +kernel
theorem d_Mo_behindTest_81 : decode (yB Y_Mo_behindTest) 81 = .ok (.if_icmp .ne 5, 3) := by decide +kernel
theorem d_Mo_behindTest_84 : decode (yB Y_Mo_behindTest) 84 = .ok (.iconst 4, 1) := by decide +kernel
theorem d_Mo_behindTest_85 : decode (yB Y_Mo_behindTest) 85 = .ok (.ireturn, 1) := by decide +kernel
theorem d_Mo_behindTest_86 : decode (yB Y_Mo_behindTest) 86 = .ok (.aload_n 0, 1) := by decide +kernel
theorem d_Mo_behindTest_87 : decode (yB Y_Mo_behindTest) 87 = .ok (.aload_n 0, 1) := by decide +kernel
theorem d_Mo_behindTest_88 : decode (yB Y_Mo_behindTest) 88 = .ok (.bipush 41, 2) := by decide +kernel
theorem d_Mo_behindTest_90 : decode (yB Y_Mo_behindTest) 90 = .ok (.invokevirtual 325, 3) := by decide +kernel
theorem d_Mo_behindTest_93 : decode (yB Y_Mo_behindTest) 93 = .ok (.invokevirtual 287, 3) := by decide +kernel
theorem d_Mo_behindTest_96 : decode (yB Y_Mo_behindTest) 96 = .ok (.aload_n 0, 1) := by decide +kernel
theorem d_Mo_behindTest_97 : decode (yB Y_Mo_behindTest) 97 = .ok (.getfield 256, 3) := by decide +kernel
theorem d_Mo_behindTest_100 : decode (yB Y_Mo_behindTest) 100 = .ok (.ifCond .ne 28, 3) := by decide +kernel
theorem d_Mo_behindTest_103 : decode (yB Y_Mo_behindTest) 103 = .ok (.aload_n 0, 1) := by decide +kernel
theorem d_Mo_behindTest_104 : decode (yB Y_Mo_behindTest) 104 = .ok (.iconst 1, 1) := by decide +kernel
theorem d_Mo_behindTest_105 : decode (yB Y_Mo_behindTest) 105 = .ok (.invokevirtual 358, 3) := by decide +kernel
theorem d_Mo_behindTest_108 : decode (yB Y_Mo_behindTest) 108 = .ok (.aload_n 0, 1) := by decide +kernel
theorem d_Mo_behindTest_109 : decode (yB Y_Mo_behindTest) 109 = .ok (.dup, 1) := by decide +kernel
theorem d_Mo_behindTest_110 : decode (yB Y_Mo_behindTest) 110 = .ok (.getfield 294, 3) := by decide +kernel
theorem d_Mo_behindTest_113 : decode (yB Y_Mo_behindTest) 113 = .ok (.iconst 1, 1) := by decide +kernel
theorem d_Mo_behindTest_114 : decode (yB Y_Mo_behindTest) 114 = .ok (.isub, 1) := by decide +kernel
theorem d_Mo_behindTest_115 : decode (yB Y_Mo_behindTest) 115 = .ok (.putfield 294, 3) := by decide +kernel
theorem d_Mo_behindTest_118 : decode (yB Y_Mo_behindTest) 118 = .ok (.aload_n 0, 1) := by decide +kernel
theorem d_Mo_behindTest_119 : decode (yB Y_Mo_behindTest) 119 = .ok (.dup, 1) := by decide +kernel
theorem d_Mo_behindTest_120 : decode (yB Y_Mo_behindTest) 120 = .ok (.getfield 316, 3) := by decide +kernel
theorem d_Mo_behindTest_123 : decode (yB Y_Mo_behindTest) 123 = .ok (.iconst 1, 1) := by decide +kernel
theorem d_Mo_behindTest_124 : decode (yB Y_Mo_behindTest) 124 = .ok (.isub, 1) := by decide +kernel
theorem d_Mo_behindTest_125 : decode (yB Y_Mo_behindTest) 125 = .ok (.putfield 316, 3) := by decide +kernel
theorem d_Mo_behindTest_128 : decode (yB Y_Mo_behindTest) 128 = .ok (.iconst 2, 1) := by decide +kernel
theorem d_Mo_behindTest_129 : decode (yB Y_Mo_behindTest) 129 = .ok (.ireturn, 1) := by decide +kernel
def F_Mo_behindTest_b66 (n : Nat) (E : zE) (S : zS) (a0 : Nat) (s0 : Int32) (u1 : Nat) (M : zH) : Option (Int32 × zH) :=
  (zck S u1 11).bind fun u1 =>
  (F_Mo_emit n E S u1 s0 0 M).bind fun q2 =>
  (zck S a0 11).bind fun u3 =>
  (F_Mo_next n E S a0 q2).bind fun q4 =>
  some (0, q4)
def F_Mo_behindTest_b47 (n : Nat) (E : zE) (S : zS) (a0 : Nat) (x1 : Int32) (s0 : Int32) (u1 : Nat) (M : zH) : Option (Int32 × zH) :=
  (zgI S M a0 11 23).bind fun v5 =>
  (zck S u1 11).bind fun u6 =>
  (F_Mo_push n E S u1 s0 v5 M).bind fun q7 =>
  if x1 = 0 then
    F_Mo_behindTest_b66 n E S a0 30 a0 q7
  else
    F_Mo_behindTest_b66 n E S a0 29 a0 q7
def F_Mo_behindTest_b32 (n : Nat) (E : zE) (S : zS) (a0 : Nat) (x1 : Int32) (s0 : Int32) (u1 : Nat) (M : zH) : Option (Int32 × zH) :=
  (zck S u1 11).bind fun u9 =>
  (F_Mo_settle n E S u1 s0 M).bind fun q10 =>
  if x1 = 0 then
    F_Mo_behindTest_b47 n E S a0 x1 30 a0 q10
  else
    F_Mo_behindTest_b47 n E S a0 x1 29 a0 q10
def F_Mo_behindTest_b22 (n : Nat) (E : zE) (S : zS) (a0 : Nat) (x1 : Int32) (M : zH) : Option (Int32 × zH) :=
  if x1 = 0 then
    F_Mo_behindTest_b32 n E S a0 x1 1 a0 M
  else
    F_Mo_behindTest_b32 n E S a0 x1 2 a0 M
def F_Mo_behindTest (n : Nat) (E : zE) (S : zS) (a0 : Nat) (M : zH) : Option (Int32 × zH) :=
  (zck S a0 11).bind fun u13 =>
  (F_Mo_isWord n E S a0 1476 M).bind fun q14 =>
  if (bI q14.1) = 0 then
    (F_Mo_isWord n E S a0 498 q14.2).bind fun q16 =>
    if q16.1 = true then
      F_Mo_behindTest_b22 n E S a0 (bI q14.1) q16.2
    else
      (F_Mo_inner n E S a0 q16.2).bind fun q18 =>
      if q18.1 = (-1) then
        some (4, q18.2)
      else
        (F_Mo_isSign n E S a0 41 q18.2).bind fun q20 =>
        (F_Mo_must n E S a0 (bI q20.1) q20.2).bind fun q21 =>
        (zgI S q21 a0 11 19).bind fun v22 =>
        if v22 = 0 then
          (F_Mo_settle n E S a0 1 q21).bind fun q24 =>
          (zgI S q24 a0 11 29).bind fun v25 =>
          (zpI S q24 a0 11 29 (v25 - 1)).bind fun m26 =>
          (zgI S m26 a0 11 30).bind fun v27 =>
          (zpI S m26 a0 11 30 (v27 - 1)).bind fun m28 =>
          some (2, m28)
        else
          some (2, q21)
  else
    F_Mo_behindTest_b22 n E S a0 (bI q14.1) q14.2
theorem K_Mo_behindTest_b66 (n : Nat) (E : zE) (S : zS) (a0 : Nat) (s0 : Int32) (u1 : Nat) (M : zH) (r : Int32) (M' : zH)  (h : F_Mo_behindTest_b66 n E S a0 s0 u1 M = some (r, M')) : zG E Y_Mo_behindTest (some (.int r), S, M') 66 [(0, .ref a0)] [.int s0, .ref u1] S M 0 0 := by
  unfold F_Mo_behindTest_b66 at h
  refine zi_iconst 0 d_Mo_behindTest_66 rfl ?_
  obtain ⟨u1, eu1, h⟩ := zbind h
  obtain ⟨q2, eq2, h⟩ := zbind h
  refine zo_virt (k' := 0) (n' := 0) 70 [.int s0, .int 0] [] [] zkd_11 (zck_s eu1) (C_Mo_emit n E S u1 s0 0 M q2 eq2) d_Mo_behindTest_67 tw_1643 tw_1640 tw_1642 ts_69 tw_13 dd_Mo_emit ⟨Nat.le_of_ble_eq_true rfl, Nat.le_of_ble_eq_true rfl, Nat.le_of_ble_eq_true rfl, Nat.le_of_ble_eq_true rfl⟩ (Nat.le_of_ble_eq_true rfl) rfl rfl rfl rfl ?_
  refine zi_aload_n 0 d_Mo_behindTest_70 rfl ?_
  obtain ⟨u3, eu3, h⟩ := zbind h
  obtain ⟨q4, eq4, h⟩ := zbind h
  refine zo_virt (k' := 0) (n' := 0) 74 [] [] [] zkd_11 (zck_s eu3) (C_Mo_next n E S a0 q2 q4 eq4) d_Mo_behindTest_71 tw_1579 tw_1576 tw_1578 ts_56 tw_13 dd_Mo_next ⟨Nat.le_of_ble_eq_true rfl, Nat.le_of_ble_eq_true rfl, Nat.le_of_ble_eq_true rfl, Nat.le_of_ble_eq_true rfl⟩ (Nat.le_of_ble_eq_true rfl) rfl rfl rfl rfl ?_
  refine zi_iconst 0 d_Mo_behindTest_74 rfl ?_
  cases h
  exact zo_ret d_Mo_behindTest_75 (Nat.le_of_ble_eq_true rfl) (Nat.le_of_ble_eq_true rfl) rfl
theorem K_Mo_behindTest_b47 (n : Nat) (E : zE) (S : zS) (a0 : Nat) (x1 : Int32) (s0 : Int32) (u1 : Nat) (M : zH) (r : Int32) (M' : zH)  (h : F_Mo_behindTest_b47 n E S a0 x1 s0 u1 M = some (r, M')) : zG E Y_Mo_behindTest (some (.int r), S, M') 47 [(0, .ref a0), (1, .int x1)] [.int s0, .ref u1] S M 0 0 := by
  unfold F_Mo_behindTest_b47 at h
  refine zi_aload_n 0 d_Mo_behindTest_47 rfl ?_
  obtain ⟨v5, ev5, h⟩ := zbind h
  refine zo_getI 51 zkd_11 23 d_Mo_behindTest_48 ev5 rfl tw_1254 rfl ?_
  obtain ⟨u6, eu6, h⟩ := zbind h
  obtain ⟨q7, eq7, h⟩ := zbind h
  refine zo_virt (k' := 0) (n' := 0) 54 [.int s0, .int v5] [] [] zkd_11 (zck_s eu6) (C_Mo_push n E S u1 s0 v5 M q7 eq7) d_Mo_behindTest_51 tw_1614 tw_1611 tw_1613 ts_62 tw_13 dd_Mo_push ⟨Nat.le_of_ble_eq_true rfl, Nat.le_of_ble_eq_true rfl, Nat.le_of_ble_eq_true rfl, Nat.le_of_ble_eq_true rfl⟩ (Nat.le_of_ble_eq_true rfl) rfl rfl rfl rfl ?_
  refine zi_aload_n 0 d_Mo_behindTest_54 rfl ?_
  refine zi_iload_n 1 d_Mo_behindTest_55 rfl ?_
  refine zi_if_eq (tgt := 64) d_Mo_behindTest_56 rfl (fun c8 => ?_) (fun c8 => ?_)
  · rw [if_pos c8] at h
    refine zi_bipush 30 d_Mo_behindTest_64 rfl ?_
    refine zi_lo [(0, .ref a0)] [0] rfl ?_
    exact K_Mo_behindTest_b66 n E S a0 30 a0 q7 r M'  h
  · rw [if_neg c8] at h
    refine zi_bipush 29 d_Mo_behindTest_59 rfl ?_
    refine zi_goto (tgt := 66) d_Mo_behindTest_61 rfl ?_
    refine zi_lo [(0, .ref a0)] [0] rfl ?_
    exact K_Mo_behindTest_b66 n E S a0 29 a0 q7 r M'  h
theorem K_Mo_behindTest_b32 (n : Nat) (E : zE) (S : zS) (a0 : Nat) (x1 : Int32) (s0 : Int32) (u1 : Nat) (M : zH) (r : Int32) (M' : zH)  (h : F_Mo_behindTest_b32 n E S a0 x1 s0 u1 M = some (r, M')) : zG E Y_Mo_behindTest (some (.int r), S, M') 32 [(0, .ref a0), (1, .int x1)] [.int s0, .ref u1] S M 0 0 := by
  unfold F_Mo_behindTest_b32 at h
  obtain ⟨u9, eu9, h⟩ := zbind h
  obtain ⟨q10, eq10, h⟩ := zbind h
  refine zo_virt (k' := 0) (n' := 0) 35 [.int s0] [] [] zkd_11 (zck_s eu9) (C_Mo_settle n E S u1 s0 M q10 eq10) d_Mo_behindTest_32 tw_1659 tw_1656 tw_1658 ts_72 tw_13 dd_Mo_settle ⟨Nat.le_of_ble_eq_true rfl, Nat.le_of_ble_eq_true rfl, Nat.le_of_ble_eq_true rfl, Nat.le_of_ble_eq_true rfl⟩ (Nat.le_of_ble_eq_true rfl) rfl rfl rfl rfl ?_
  refine zi_aload_n 0 d_Mo_behindTest_35 rfl ?_
  refine zi_iload_n 1 d_Mo_behindTest_36 rfl ?_
  refine zi_if_eq (tgt := 45) d_Mo_behindTest_37 rfl (fun c11 => ?_) (fun c11 => ?_)
  · rw [if_pos c11] at h
    refine zi_bipush 30 d_Mo_behindTest_45 rfl ?_
    refine zi_lo [(0, .ref a0), (1, .int x1)] [0, 1] rfl ?_
    exact K_Mo_behindTest_b47 n E S a0 x1 30 a0 q10 r M'  h
  · rw [if_neg c11] at h
    refine zi_bipush 29 d_Mo_behindTest_40 rfl ?_
    refine zi_goto (tgt := 47) d_Mo_behindTest_42 rfl ?_
    refine zi_lo [(0, .ref a0), (1, .int x1)] [0, 1] rfl ?_
    exact K_Mo_behindTest_b47 n E S a0 x1 29 a0 q10 r M'  h
theorem K_Mo_behindTest_b22 (n : Nat) (E : zE) (S : zS) (a0 : Nat) (x1 : Int32) (M : zH) (r : Int32) (M' : zH)  (h : F_Mo_behindTest_b22 n E S a0 x1 M = some (r, M')) : zG E Y_Mo_behindTest (some (.int r), S, M') 22 [(0, .ref a0), (1, .int x1)] [] S M 0 0 := by
  unfold F_Mo_behindTest_b22 at h
  refine zi_aload_n 0 d_Mo_behindTest_22 rfl ?_
  refine zi_iload_n 1 d_Mo_behindTest_23 rfl ?_
  refine zi_if_eq (tgt := 31) d_Mo_behindTest_24 rfl (fun c12 => ?_) (fun c12 => ?_)
  · rw [if_pos c12] at h
    refine zi_iconst 1 d_Mo_behindTest_31 rfl ?_
    refine zi_lo [(0, .ref a0), (1, .int x1)] [0, 1] rfl ?_
    exact K_Mo_behindTest_b32 n E S a0 x1 1 a0 M r M'  h
  · rw [if_neg c12] at h
    refine zi_iconst 2 d_Mo_behindTest_27 rfl ?_
    refine zi_goto (tgt := 32) d_Mo_behindTest_28 rfl ?_
    refine zi_lo [(0, .ref a0), (1, .int x1)] [0, 1] rfl ?_
    exact K_Mo_behindTest_b32 n E S a0 x1 2 a0 M r M'  h
theorem K_Mo_behindTest (n : Nat) (E : zE) (S : zS) (a0 : Nat) (M : zH) (r : Int32) (M' : zH)  (h : F_Mo_behindTest n E S a0 M = some (r, M')) : zG E Y_Mo_behindTest (some (.int r), S, M') 0 [(0, .ref a0)] [] S M 0 0 := by
  unfold F_Mo_behindTest at h
  refine zi_aload_n 0 d_Mo_behindTest_0 rfl ?_
  refine zi_ldc2 d_Mo_behindTest_1 tw_1676 ?_
  obtain ⟨u13, eu13, h⟩ := zbind h
  obtain ⟨q14, eq14, h⟩ := zbind h
  refine zo_virt (k' := 0) (n' := 0) 7 [.long 1476] [] [.int (bI q14.1)] zkd_11 (zck_s eu13) (C_Mo_isWord n E S a0 1476 M q14.1 q14.2 eq14) d_Mo_behindTest_4 tw_1597 tw_1594 tw_1596 ts_58 tw_13 dd_Mo_isWord ⟨Nat.le_of_ble_eq_true rfl, Nat.le_of_ble_eq_true rfl, Nat.le_of_ble_eq_true rfl, Nat.le_of_ble_eq_true rfl⟩ (Nat.le_of_ble_eq_true rfl) rfl rfl rfl rfl ?_
  refine zi_istore_n [(1, .int (bI q14.1)), (0, .ref a0)] d_Mo_behindTest_7 (by decide) rfl ?_
  refine zi_iload_n 0 d_Mo_behindTest_8 rfl ?_
  refine zi_if_ne (tgt := 22) d_Mo_behindTest_9 rfl (fun c15 => ?_) (fun c15 => ?_)
  · rw [if_neg c15] at h
    refine zi_lo [(0, .ref a0), (1, .int (bI q14.1))] [1, 0] rfl ?_
    exact K_Mo_behindTest_b22 n E S a0 (bI q14.1) q14.2 r M'  h
  · rw [if_pos c15] at h
    refine zi_aload_n 1 d_Mo_behindTest_12 rfl ?_
    refine zi_ldc2 d_Mo_behindTest_13 tw_1677 ?_
    obtain ⟨q16, eq16, h⟩ := zbind h
    refine zo_virt (k' := 0) (n' := 0) 19 [.long 498] [] [.int (bI q16.1)] zkd_11 (zck_s eu13) (C_Mo_isWord n E S a0 498 q14.2 q16.1 q16.2 eq16) d_Mo_behindTest_16 tw_1597 tw_1594 tw_1596 ts_58 tw_13 dd_Mo_isWord ⟨Nat.le_of_ble_eq_true rfl, Nat.le_of_ble_eq_true rfl, Nat.le_of_ble_eq_true rfl, Nat.le_of_ble_eq_true rfl⟩ (Nat.le_of_ble_eq_true rfl) rfl rfl rfl rfl ?_
    refine zo_ifeqB d_Mo_behindTest_19 rfl 22 rfl (fun c17 => ?_) (fun c17 => ?_)
    · rw [if_neg c17] at h
      refine zi_aload_n 1 d_Mo_behindTest_76 rfl ?_
      obtain ⟨q18, eq18, h⟩ := zbind h
      refine zo_virt (k' := 0) (n' := 0) 80 [] [] [.int q18.1] zkd_11 (zck_s eu13) (C_Mo_inner n E S a0 q16.2 q18.1 q18.2 eq18) d_Mo_behindTest_77 tw_1663 tw_1660 tw_1662 ts_73 tw_13 dd_Mo_inner ⟨Nat.le_of_ble_eq_true rfl, Nat.le_of_ble_eq_true rfl, Nat.le_of_ble_eq_true rfl, Nat.le_of_ble_eq_true rfl⟩ (Nat.le_of_ble_eq_true rfl) rfl rfl rfl rfl ?_
      refine zi_iconst (-1) d_Mo_behindTest_80 rfl ?_
      refine zi_icmp_ne (tgt := 86) d_Mo_behindTest_81 rfl (fun c19 => ?_) (fun c19 => ?_)
      · rw [if_neg c19] at h
        refine zi_aload_n 1 d_Mo_behindTest_86 rfl ?_
        refine zi_aload_n 1 d_Mo_behindTest_87 rfl ?_
        refine zi_bipush 41 d_Mo_behindTest_88 rfl ?_
        obtain ⟨q20, eq20, h⟩ := zbind h
        refine zo_virt (k' := 0) (n' := 0) 93 [.int 41] [.ref a0] [.int (bI q20.1), .ref a0] zkd_11 (zck_s eu13) (C_Mo_isSign n E S a0 41 q18.2 q20.1 q20.2 eq20) d_Mo_behindTest_90 tw_1618 tw_1615 tw_1617 ts_63 tw_13 dd_Mo_isSign ⟨Nat.le_of_ble_eq_true rfl, Nat.le_of_ble_eq_true rfl, Nat.le_of_ble_eq_true rfl, Nat.le_of_ble_eq_true rfl⟩ (Nat.le_of_ble_eq_true rfl) rfl rfl rfl rfl ?_
        obtain ⟨q21, eq21, h⟩ := zbind h
        refine zo_virt (k' := 0) (n' := 0) 96 [.int (bI q20.1)] [] [] zkd_11 (zck_s eu13) (C_Mo_must n E S a0 (bI q20.1) q20.2 q21 eq21) d_Mo_behindTest_93 tw_1601 tw_1598 tw_1600 ts_59 tw_13 dd_Mo_must ⟨Nat.le_of_ble_eq_true rfl, Nat.le_of_ble_eq_true rfl, Nat.le_of_ble_eq_true rfl, Nat.le_of_ble_eq_true rfl⟩ (Nat.le_of_ble_eq_true rfl) rfl rfl rfl rfl ?_
        refine zi_aload_n 1 d_Mo_behindTest_96 rfl ?_
        obtain ⟨v22, ev22, h⟩ := zbind h
        refine zo_getI 100 zkd_11 19 d_Mo_behindTest_97 ev22 rfl tw_1250 rfl ?_
        refine zi_if_ne (tgt := 128) d_Mo_behindTest_100 rfl (fun c23 => ?_) (fun c23 => ?_)
        · rw [if_neg c23] at h
          refine zi_iconst 2 d_Mo_behindTest_128 rfl ?_
          cases h
          exact zo_ret d_Mo_behindTest_129 (Nat.le_of_ble_eq_true rfl) (Nat.le_of_ble_eq_true rfl) rfl
        · rw [if_pos c23] at h
          refine zi_aload_n 1 d_Mo_behindTest_103 rfl ?_
          refine zi_iconst 1 d_Mo_behindTest_104 rfl ?_
          obtain ⟨q24, eq24, h⟩ := zbind h
          refine zo_virt (k' := 0) (n' := 0) 108 [.int 1] [] [] zkd_11 (zck_s eu13) (C_Mo_settle n E S a0 1 q21 q24 eq24) d_Mo_behindTest_105 tw_1659 tw_1656 tw_1658 ts_72 tw_13 dd_Mo_settle ⟨Nat.le_of_ble_eq_true rfl, Nat.le_of_ble_eq_true rfl, Nat.le_of_ble_eq_true rfl, Nat.le_of_ble_eq_true rfl⟩ (Nat.le_of_ble_eq_true rfl) rfl rfl rfl rfl ?_
          refine zi_aload_n 1 d_Mo_behindTest_108 rfl ?_
          refine zi_dup d_Mo_behindTest_109 rfl ?_
          obtain ⟨v25, ev25, h⟩ := zbind h
          refine zo_getI 113 zkd_11 29 d_Mo_behindTest_110 ev25 rfl tw_1260 rfl ?_
          refine zi_iconst 1 d_Mo_behindTest_113 rfl ?_
          refine zi_isub d_Mo_behindTest_114 ?_
          obtain ⟨m26, em26, h⟩ := zbind h
          refine zo_putI 118 zkd_11 29 d_Mo_behindTest_115 em26 rfl rfl rfl tw_1260 rfl ?_
          refine zi_aload_n 1 d_Mo_behindTest_118 rfl ?_
          refine zi_dup d_Mo_behindTest_119 rfl ?_
          obtain ⟨v27, ev27, h⟩ := zbind h
          refine zo_getI 123 zkd_11 30 d_Mo_behindTest_120 ev27 rfl tw_1261 rfl ?_
          refine zi_iconst 1 d_Mo_behindTest_123 rfl ?_
          refine zi_isub d_Mo_behindTest_124 ?_
          obtain ⟨m28, em28, h⟩ := zbind h
          refine zo_putI 128 zkd_11 30 d_Mo_behindTest_125 em28 rfl rfl rfl tw_1261 rfl ?_
          refine zi_iconst 2 d_Mo_behindTest_128 rfl ?_
          cases h
          exact zo_ret d_Mo_behindTest_129 (Nat.le_of_ble_eq_true rfl) (Nat.le_of_ble_eq_true rfl) rfl
      · rw [if_pos c19] at h
        refine zi_iconst 4 d_Mo_behindTest_84 rfl ?_
        cases h
        exact zo_ret d_Mo_behindTest_85 (Nat.le_of_ble_eq_true rfl) (Nat.le_of_ble_eq_true rfl) rfl
    · rw [if_pos c17] at h
      refine zi_lo [(0, .ref a0), (1, .int (bI q14.1))] [1, 0] rfl ?_
      exact K_Mo_behindTest_b22 n E S a0 (bI q14.1) q16.2 r M'  h
theorem C_Mo_behindTest (n : Nat) (E : zE) (S : zS) (a0 : Nat) (M : zH) (r : Int32) (M' : zH) (h : F_Mo_behindTest n E S a0 M = some (r, M')) : zC E Y_Mo_behindTest [.ref a0] S M (some (.int r), S, M') :=
  zC.of (Or.inl (show plainName "NightColanderModel" = true by decide)) (Nat.le_of_ble_eq_true rfl) (trivial) (K_Mo_behindTest n E S a0 M r M' h)
theorem d_Mo_leaf_0 : decode (yB Y_Mo_leaf) 0 = .ok (.aload_n 0, 1) := by decide +kernel
theorem d_Mo_leaf_1 : decode (yB Y_Mo_leaf) 1 = .ok (.iload_n 1, 1) := by decide +kernel
theorem d_Mo_leaf_2 : decode (yB Y_Mo_leaf) 2 = .ok (.ifCond .eq 16, 3) := by decide +kernel
theorem d_Mo_leaf_5 : decode (yB Y_Mo_leaf) 5 = .ok (.aload_n 0, 1) := by decide +kernel
theorem d_Mo_leaf_6 : decode (yB Y_Mo_leaf) 6 = .ok (.getfield 322, 3) := by decide +kernel
theorem d_Mo_leaf_9 : decode (yB Y_Mo_leaf) 9 = .ok (.bipush 50, 2) := by decide +kernel
theorem d_Mo_leaf_11 : decode (yB Y_Mo_leaf) 11 = .ok (.if_icmp .ge 7, 3) := by decide +kernel
theorem d_Mo_leaf_14 : decode (yB Y_Mo_leaf) 14 = .ok (.iconst 1, 1) := by decide +kernel
theorem d_Mo_leaf_15 : decode (yB Y_Mo_leaf) 15 = .ok (.goto 4, 3) := by decide +kernel
theorem d_Mo_leaf_18 : decode (yB Y_Mo_leaf) 18 = .ok (.iconst 0, 1) := by decide +kernel
theorem d_Mo_leaf_19 : decode (yB Y_Mo_leaf) 19 = .ok (.invokevirtual 287, 3) := by decide +kernel
theorem d_Mo_leaf_22 : decode (yB Y_Mo_leaf) 22 = .ok (.aload_n 0, 1) := by decide +kernel
theorem d_Mo_leaf_23 : decode (yB Y_Mo_leaf) 23 = .ok (.getfield 256, 3) := by decide +kernel
theorem d_Mo_leaf_26 : decode (yB Y_Mo_leaf) 26 = .ok (.ifCond .ne 19, 3) := by decide +kernel
theorem d_Mo_leaf_29 : decode (yB Y_Mo_leaf) 29 = .ok (.aload_n 0, 1) := by decide +kernel
theorem d_Mo_leaf_30 : decode (yB Y_Mo_leaf) 30 = .ok (.iload_n 2, 1) := by decide +kernel
theorem d_Mo_leaf_31 : decode (yB Y_Mo_leaf) 31 = .ok (.iload_n 3, 1) := by decide +kernel
theorem d_Mo_leaf_32 : decode (yB Y_Mo_leaf) 32 = .ok (.invokevirtual 300, 3) := by decide +kernel
theorem d_Mo_leaf_35 : decode (yB Y_Mo_leaf) 35 = .ok (.aload_n 0, 1) := by decide +kernel
theorem d_Mo_leaf_36 : decode (yB Y_Mo_leaf) 36 = .ok (.dup, 1) := by decide +kernel
theorem d_Mo_leaf_37 : decode (yB Y_Mo_leaf) 37 = .ok (.getfield 322, 3) := by decide +kernel
theorem d_Mo_leaf_40 : decode (yB Y_Mo_leaf) 40 = .ok (.iconst 1, 1) := by decide +kernel
theorem d_Mo_leaf_41 : decode (yB Y_Mo_leaf) 41 = .ok (.iadd, 1) := by decide +kernel
theorem d_Mo_leaf_42 : decode (yB Y_Mo_leaf) 42 = .ok (.putfield 322, 3) := by decide +kernel
theorem d_Mo_leaf_45 : decode (yB Y_Mo_leaf) 45 = .ok (.return_, 1) := by decide +kernel
def F_Mo_leaf_b19 (n : Nat) (E : zE) (S : zS) (a0 : Nat) (x2 : Int32) (x3 : Int32) (s0 : Int32) (u1 : Nat) (M : zH) : Option (zH) :=
  (zck S u1 11).bind fun u1 =>
  (F_Mo_must n E S u1 s0 M).bind fun q2 =>
  (zgI S q2 a0 11 19).bind fun v3 =>
  if v3 = 0 then
    (F_Mo_emit n E S a0 x2 x3 q2).bind fun q5 =>
    (zgI S q5 a0 11 26).bind fun v6 =>
    (zpI S q5 a0 11 26 (v6 + 1)).bind fun m7 =>
    some (m7)
  else
    some (q2)
def F_Mo_leaf_b18 (n : Nat) (E : zE) (S : zS) (a0 : Nat) (x2 : Int32) (x3 : Int32) (u0 : Nat) (M : zH) : Option (zH) :=
  F_Mo_leaf_b19 n E S a0 x2 x3 0 u0 M
def F_Mo_leaf (n : Nat) (E : zE) (S : zS) (a0 : Nat) (x1 : Int32) (x2 : Int32) (x3 : Int32) (M : zH) : Option (zH) :=
  if x1 = 0 then
    F_Mo_leaf_b18 n E S a0 x2 x3 a0 M
  else
    (zgI S M a0 11 26).bind fun v9 =>
    if 50 ≤ v9 then
      F_Mo_leaf_b18 n E S a0 x2 x3 a0 M
    else
      F_Mo_leaf_b19 n E S a0 x2 x3 1 a0 M
theorem K_Mo_leaf_b19 (n : Nat) (E : zE) (S : zS) (a0 : Nat) (x2 : Int32) (x3 : Int32) (s0 : Int32) (u1 : Nat) (M : zH) (M' : zH)  (h : F_Mo_leaf_b19 n E S a0 x2 x3 s0 u1 M = some M') : zG E Y_Mo_leaf (none, S, M') 19 [(0, .ref a0), (2, .int x2), (3, .int x3)] [.int s0, .ref u1] S M 0 0 := by
  unfold F_Mo_leaf_b19 at h
  obtain ⟨u1, eu1, h⟩ := zbind h
  obtain ⟨q2, eq2, h⟩ := zbind h
  refine zo_virt (k' := 0) (n' := 0) 22 [.int s0] [] [] zkd_11 (zck_s eu1) (C_Mo_must n E S u1 s0 M q2 eq2) d_Mo_leaf_19 tw_1601 tw_1598 tw_1600 ts_59 tw_13 dd_Mo_must ⟨Nat.le_of_ble_eq_true rfl, Nat.le_of_ble_eq_true rfl, Nat.le_of_ble_eq_true rfl, Nat.le_of_ble_eq_true rfl⟩ (Nat.le_of_ble_eq_true rfl) rfl rfl rfl rfl ?_
  refine zi_aload_n 0 d_Mo_leaf_22 rfl ?_
  obtain ⟨v3, ev3, h⟩ := zbind h
  refine zo_getI 26 zkd_11 19 d_Mo_leaf_23 ev3 rfl tw_1250 rfl ?_
  refine zi_if_ne (tgt := 45) d_Mo_leaf_26 rfl (fun c4 => ?_) (fun c4 => ?_)
  · rw [if_neg c4] at h
    cases h
    exact zo_ret d_Mo_leaf_45 (Nat.le_of_ble_eq_true rfl) (Nat.le_of_ble_eq_true rfl) rfl
  · rw [if_pos c4] at h
    refine zi_aload_n 0 d_Mo_leaf_29 rfl ?_
    refine zi_iload_n 1 d_Mo_leaf_30 rfl ?_
    refine zi_iload_n 2 d_Mo_leaf_31 rfl ?_
    obtain ⟨q5, eq5, h⟩ := zbind h
    refine zo_virt (k' := 0) (n' := 0) 35 [.int x2, .int x3] [] [] zkd_11 (zgI_s ev3).1 (C_Mo_emit n E S a0 x2 x3 q2 q5 eq5) d_Mo_leaf_32 tw_1643 tw_1640 tw_1642 ts_69 tw_13 dd_Mo_emit ⟨Nat.le_of_ble_eq_true rfl, Nat.le_of_ble_eq_true rfl, Nat.le_of_ble_eq_true rfl, Nat.le_of_ble_eq_true rfl⟩ (Nat.le_of_ble_eq_true rfl) rfl rfl rfl rfl ?_
    refine zi_aload_n 0 d_Mo_leaf_35 rfl ?_
    refine zi_dup d_Mo_leaf_36 rfl ?_
    obtain ⟨v6, ev6, h⟩ := zbind h
    refine zo_getI 40 zkd_11 26 d_Mo_leaf_37 ev6 rfl tw_1257 rfl ?_
    refine zi_iconst 1 d_Mo_leaf_40 rfl ?_
    refine zi_iadd d_Mo_leaf_41 ?_
    obtain ⟨m7, em7, h⟩ := zbind h
    refine zo_putI 45 zkd_11 26 d_Mo_leaf_42 em7 rfl rfl rfl tw_1257 rfl ?_
    cases h
    exact zo_ret d_Mo_leaf_45 (Nat.le_of_ble_eq_true rfl) (Nat.le_of_ble_eq_true rfl) rfl
theorem K_Mo_leaf_b18 (n : Nat) (E : zE) (S : zS) (a0 : Nat) (x2 : Int32) (x3 : Int32) (u0 : Nat) (M : zH) (M' : zH)  (h : F_Mo_leaf_b18 n E S a0 x2 x3 u0 M = some M') : zG E Y_Mo_leaf (none, S, M') 18 [(0, .ref a0), (2, .int x2), (3, .int x3)] [.ref u0] S M 0 0 := by
  unfold F_Mo_leaf_b18 at h
  refine zi_iconst 0 d_Mo_leaf_18 rfl ?_
  refine zi_lo [(0, .ref a0), (2, .int x2), (3, .int x3)] [0, 1, 2] rfl ?_
  exact K_Mo_leaf_b19 n E S a0 x2 x3 0 u0 M M'  h
theorem K_Mo_leaf (n : Nat) (E : zE) (S : zS) (a0 : Nat) (x1 : Int32) (x2 : Int32) (x3 : Int32) (M : zH) (M' : zH)  (h : F_Mo_leaf n E S a0 x1 x2 x3 M = some M') : zG E Y_Mo_leaf (none, S, M') 0 [(0, .ref a0), (1, .int x1), (2, .int x2), (3, .int x3)] [] S M 0 0 := by
  unfold F_Mo_leaf at h
  refine zi_aload_n 0 d_Mo_leaf_0 rfl ?_
  refine zi_iload_n 1 d_Mo_leaf_1 rfl ?_
  refine zi_if_eq (tgt := 18) d_Mo_leaf_2 rfl (fun c8 => ?_) (fun c8 => ?_)
  · rw [if_pos c8] at h
    refine zi_lo [(0, .ref a0), (2, .int x2), (3, .int x3)] [0, 2, 3] rfl ?_
    exact K_Mo_leaf_b18 n E S a0 x2 x3 a0 M M'  h
  · rw [if_neg c8] at h
    refine zi_aload_n 0 d_Mo_leaf_5 rfl ?_
    obtain ⟨v9, ev9, h⟩ := zbind h
    refine zo_getI 9 zkd_11 26 d_Mo_leaf_6 ev9 rfl tw_1257 rfl ?_
    refine zi_bipush 50 d_Mo_leaf_9 rfl ?_
    refine zi_icmp_ge (tgt := 18) d_Mo_leaf_11 rfl (fun c10 => ?_) (fun c10 => ?_)
    · rw [if_pos c10] at h
      refine zi_lo [(0, .ref a0), (2, .int x2), (3, .int x3)] [0, 2, 3] rfl ?_
      exact K_Mo_leaf_b18 n E S a0 x2 x3 a0 M M'  h
    · rw [if_neg c10] at h
      refine zi_iconst 1 d_Mo_leaf_14 rfl ?_
      refine zi_goto (tgt := 19) d_Mo_leaf_15 rfl ?_
      refine zi_lo [(0, .ref a0), (2, .int x2), (3, .int x3)] [0, 2, 3] rfl ?_
      exact K_Mo_leaf_b19 n E S a0 x2 x3 1 a0 M M'  h
theorem C_Mo_leaf (n : Nat) (E : zE) (S : zS) (a0 : Nat) (x1 : Int32) (x2 : Int32) (x3 : Int32) (M : zH) (M' : zH) (h : F_Mo_leaf n E S a0 x1 x2 x3 M = some M') : zC E Y_Mo_leaf [.ref a0, .int x1, .int x2, .int x3] S M (none, S, M') :=
  zC.of (Or.inl (show plainName "NightColanderModel" = true by decide)) (Nat.le_of_ble_eq_true rfl) (trivial) (K_Mo_leaf n E S a0 x1 x2 x3 M M' h)
theorem d_Mo_number_0 : decode (yB Y_Mo_number) 0 = .ok (.aload_n 0, 1) := by decide +kernel
theorem d_Mo_number_1 : decode (yB Y_Mo_number) 1 = .ok (.getfield 266, 3) := by decide +kernel
theorem d_Mo_number_4 : decode (yB Y_Mo_number) 4 = .ok (.l2i, 1) := by decide +kernel
theorem d_Mo_number_5 : decode (yB Y_Mo_number) 5 = .ok (.istore 5, 2) := by decide +kernel
theorem d_Mo_number_7 : decode (yB Y_Mo_number) 7 = .ok (.aload_n 0, 1) := by decide +kernel
theorem d_Mo_number_8 : decode (yB Y_Mo_number) 8 = .ok (.aload_n 0, 1) := by decide +kernel
theorem d_Mo_number_9 : decode (yB Y_Mo_number) 9 = .ok (.getfield 276, 3) := by decide +kernel
theorem d_Mo_number_12 : decode (yB Y_Mo_number) 12 = .ok (.iconst 2, 1) := by decide +kernel
theorem d_Mo_number_13 : decode (yB Y_Mo_number) 13 = .ok (.if_icmp .ne 19, 3) := by decide +kernel
theorem d_Mo_number_16 : decode (yB Y_Mo_number) 16 = .ok (.aload_n 0, 1) := by decide +kernel
theorem d_Mo_number_17 : decode (yB Y_Mo_number) 17 = .ok (.getfield 266, 3) := by decide +kernel
theorem d_Mo_number_20 : decode (yB Y_Mo_number) 20 = .ok (.lload_n 1, 1) := by decide +kernel
theorem d_Mo_number_21 : decode (yB Y_Mo_number) 21 = .ok (.lload_n 3, 1) := by decide +kernel
theorem d_Mo_number_22 : decode (yB Y_Mo_number) 22 = .ok (.invokestatic 176, 3) := by decide +kernel
theorem d_Mo_number_25 : decode (yB Y_Mo_number) 25 = .ok (.ifCond .eq 7, 3) := by decide +kernel
theorem d_Mo_number_28 : decode (yB Y_Mo_number) 28 = .ok (.iconst 1, 1) := by decide +kernel
theorem d_Mo_number_29 : decode (yB Y_Mo_number) 29 = .ok (.goto 4, 3) := by decide +kernel
theorem d_Mo_number_32 : decode (yB Y_Mo_number) 32 = .ok (.iconst 0, 1) := by decide +kernel
theorem d_Mo_number_33 : decode (yB Y_Mo_number) 33 = .ok (.invokevirtual 287, 3) := by decide +kernel
theorem d_Mo_number_36 : decode (yB Y_Mo_number) 36 = .ok (.iload 5, 2) := by decide +kernel
theorem d_Mo_number_38 : decode (yB Y_Mo_number) 38 = .ok (.ireturn, 1) := by decide +kernel
def F_Mo_number_b33 (n : Nat) (E : zE) (S : zS) (x5 : Int32) (s0 : Int32) (u1 : Nat) (M : zH) : Option (Int32 × zH) :=
  (zck S u1 11).bind fun u1 =>
  (F_Mo_must n E S u1 s0 M).bind fun q2 =>
  some (x5, q2)
def F_Mo_number_b32 (n : Nat) (E : zE) (S : zS) (x5 : Int32) (u0 : Nat) (M : zH) : Option (Int32 × zH) :=
  F_Mo_number_b33 n E S x5 0 u0 M
def F_Mo_number (n : Nat) (E : zE) (S : zS) (a0 : Nat) (y1 : Int64) (y3 : Int64) (M : zH) : Option (Int32 × zH) :=
  (zgJ S M a0 11 17).bind fun v3 =>
  (zgI S M a0 11 16).bind fun v4 =>
  if v4 = 2 then
    (zgJ S M a0 11 17).bind fun v6 =>
    (F_Mo_in n E S v6 y1 y3 M).bind fun q7 =>
    if q7.1 = true then
      F_Mo_number_b33 n E S v3.toInt32 1 a0 q7.2
    else
      F_Mo_number_b32 n E S v3.toInt32 a0 q7.2
  else
    F_Mo_number_b32 n E S v3.toInt32 a0 M
theorem K_Mo_number_b33 (n : Nat) (E : zE) (S : zS) (x5 : Int32) (s0 : Int32) (u1 : Nat) (M : zH) (r : Int32) (M' : zH)  (h : F_Mo_number_b33 n E S x5 s0 u1 M = some (r, M')) : zG E Y_Mo_number (some (.int r), S, M') 33 [(5, .int x5)] [.int s0, .ref u1] S M 0 0 := by
  unfold F_Mo_number_b33 at h
  obtain ⟨u1, eu1, h⟩ := zbind h
  obtain ⟨q2, eq2, h⟩ := zbind h
  refine zo_virt (k' := 0) (n' := 0) 36 [.int s0] [] [] zkd_11 (zck_s eu1) (C_Mo_must n E S u1 s0 M q2 eq2) d_Mo_number_33 tw_1601 tw_1598 tw_1600 ts_59 tw_13 dd_Mo_must ⟨Nat.le_of_ble_eq_true rfl, Nat.le_of_ble_eq_true rfl, Nat.le_of_ble_eq_true rfl, Nat.le_of_ble_eq_true rfl⟩ (Nat.le_of_ble_eq_true rfl) rfl rfl rfl rfl ?_
  refine zi_iload 0 d_Mo_number_36 rfl ?_
  cases h
  exact zo_ret d_Mo_number_38 (Nat.le_of_ble_eq_true rfl) (Nat.le_of_ble_eq_true rfl) rfl
theorem K_Mo_number_b32 (n : Nat) (E : zE) (S : zS) (x5 : Int32) (u0 : Nat) (M : zH) (r : Int32) (M' : zH)  (h : F_Mo_number_b32 n E S x5 u0 M = some (r, M')) : zG E Y_Mo_number (some (.int r), S, M') 32 [(5, .int x5)] [.ref u0] S M 0 0 := by
  unfold F_Mo_number_b32 at h
  refine zi_iconst 0 d_Mo_number_32 rfl ?_
  refine zi_lo [(5, .int x5)] [0] rfl ?_
  exact K_Mo_number_b33 n E S x5 0 u0 M r M'  h
theorem K_Mo_number (n : Nat) (E : zE) (S : zS) (a0 : Nat) (y1 : Int64) (y3 : Int64) (M : zH) (r : Int32) (M' : zH)  (h : F_Mo_number n E S a0 y1 y3 M = some (r, M')) : zG E Y_Mo_number (some (.int r), S, M') 0 [(0, .ref a0), (1, .long y1), (3, .long y3)] [] S M 0 0 := by
  unfold F_Mo_number at h
  refine zi_aload_n 0 d_Mo_number_0 rfl ?_
  obtain ⟨v3, ev3, h⟩ := zbind h
  refine zo_getJ 4 zkd_11 17 d_Mo_number_1 ev3 rfl tw_1248 rfl ?_
  refine zi_l2i d_Mo_number_4 ?_
  refine zi_istore [(5, .int v3.toInt32), (0, .ref a0), (1, .long y1), (3, .long y3)] d_Mo_number_5 (by decide) rfl ?_
  refine zi_aload_n 1 d_Mo_number_7 rfl ?_
  refine zi_aload_n 1 d_Mo_number_8 rfl ?_
  obtain ⟨v4, ev4, h⟩ := zbind h
  refine zo_getI 12 zkd_11 16 d_Mo_number_9 ev4 rfl tw_1247 rfl ?_
  refine zi_iconst 2 d_Mo_number_12 rfl ?_
  refine zi_icmp_ne (tgt := 32) d_Mo_number_13 rfl (fun c5 => ?_) (fun c5 => ?_)
  · rw [if_neg c5] at h
    refine zi_lo [(5, .int v3.toInt32)] [0] rfl ?_
    exact K_Mo_number_b32 n E S v3.toInt32 a0 M r M'  h
  · rw [if_pos c5] at h
    refine zi_aload_n 1 d_Mo_number_16 rfl ?_
    obtain ⟨v6, ev6, h⟩ := zbind h
    refine zo_getJ 20 zkd_11 17 d_Mo_number_17 ev6 rfl tw_1248 rfl ?_
    refine zi_lload_n 2 d_Mo_number_20 rfl ?_
    refine zi_lload_n 3 d_Mo_number_21 rfl ?_
    obtain ⟨q7, eq7, h⟩ := zbind h
    refine zo_stat (k' := 0) (n' := 0) 25 [.long v6, .long y1, .long y3] [.ref a0] [.int (bI q7.1), .ref a0] (C_Mo_in n E S v6 y1 y3 M q7.1 q7.2 eq7) d_Mo_number_22 tw_1421 tw_1419 tw_1420 tw_13 dd_Mo_in ⟨Nat.le_of_ble_eq_true rfl, Nat.le_of_ble_eq_true rfl, Nat.le_of_ble_eq_true rfl, Nat.le_of_ble_eq_true rfl⟩ (Nat.le_of_ble_eq_true rfl) rfl rfl rfl rfl ?_
    refine zo_ifeqB d_Mo_number_25 rfl 28 rfl (fun c8 => ?_) (fun c8 => ?_)
    · rw [if_neg c8] at h
      refine zi_lo [(5, .int v3.toInt32)] [0] rfl ?_
      exact K_Mo_number_b32 n E S v3.toInt32 a0 q7.2 r M'  h
    · rw [if_pos c8] at h
      refine zi_iconst 1 d_Mo_number_28 rfl ?_
      refine zi_goto (tgt := 33) d_Mo_number_29 rfl ?_
      refine zi_lo [(5, .int v3.toInt32)] [0] rfl ?_
      exact K_Mo_number_b33 n E S v3.toInt32 1 a0 q7.2 r M'  h
theorem C_Mo_number (n : Nat) (E : zE) (S : zS) (a0 : Nat) (y1 : Int64) (y3 : Int64) (M : zH) (r : Int32) (M' : zH) (h : F_Mo_number n E S a0 y1 y3 M = some (r, M')) : zC E Y_Mo_number [.ref a0, .long y1, .long y3] S M (some (.int r), S, M') :=
  zC.of (Or.inl (show plainName "NightColanderModel" = true by decide)) (Nat.le_of_ble_eq_true rfl) (trivial) (K_Mo_number n E S a0 y1 y3 M r M' h)
