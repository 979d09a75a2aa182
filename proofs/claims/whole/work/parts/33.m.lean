/-! METHODS (printed by gen/build.py): Mo_putBack Mo_tell Mo_undo Mo_in Mo_image Mo_lasting Mo_back Mo_is Mo_isField Mo_isRing Mo_isBucket Mo_reckon Mo_reckonAll -/
theorem d_Mo_putBack_0 : decode (yB Y_Mo_putBack) 0 = .ok (.iconst 0, 1) := by decide +kernel
theorem d_Mo_putBack_1 : decode (yB Y_Mo_putBack) 1 = .ok (.istore_n 2, 1) := by decide +kernel
theorem d_Mo_putBack_2 : decode (yB Y_Mo_putBack) 2 = .ok (.iload_n 2, 1) := by decide +kernel
theorem d_Mo_putBack_3 : decode (yB Y_Mo_putBack) 3 = .ok (.bipush 50, 2) := by decide +kernel
theorem d_Mo_putBack_5 : decode (yB Y_Mo_putBack) 5 = .ok (.if_icmp .ge 28, 3) := by decide +kernel
theorem d_Mo_putBack_8 : decode (yB Y_Mo_putBack) 8 = .ok (.aload_n 0, 1) := by decide +kernel
theorem d_Mo_putBack_9 : decode (yB Y_Mo_putBack) 9 = .ok (.getfield 13, 3) := by decide +kernel
theorem d_Mo_putBack_12 : decode (yB Y_Mo_putBack) 12 = .ok (.iconst 4, 1) := by decide +kernel
theorem d_Mo_putBack_13 : decode (yB Y_Mo_putBack) 13 = .ok (.iload_n 2, 1) := by decide +kernel
theorem d_Mo_putBack_14 : decode (yB Y_Mo_putBack) 14 = .ok (.iadd, 1) := by decide +kernel
theorem d_Mo_putBack_15 : decode (yB Y_Mo_putBack) 15 = .ok (.aload_n 0, 1) := by decide +kernel
theorem d_Mo_putBack_16 : decode (yB Y_Mo_putBack) 16 = .ok (.getfield 23, 3) := by decide +kernel
theorem d_Mo_putBack_19 : decode (yB Y_Mo_putBack) 19 = .ok (.bipush 50, 2) := by decide +kernel
theorem d_Mo_putBack_21 : decode (yB Y_Mo_putBack) 21 = .ok (.iload_n 1, 1) := by decide +kernel
theorem d_Mo_putBack_22 : decode (yB Y_Mo_putBack) 22 = .ok (.imul, 1) := by decide +kernel
theorem d_Mo_putBack_23 : decode (yB Y_Mo_putBack) 23 = .ok (.iload_n 2, 1) := by decide +kernel
theorem d_Mo_putBack_24 : decode (yB Y_Mo_putBack) 24 = .ok (.iadd, 1) := by decide +kernel
theorem d_Mo_putBack_25 : decode (yB Y_Mo_putBack) 25 = .ok (.iaload, 1) := by decide +kernel
theorem d_Mo_putBack_26 : decode (yB Y_Mo_putBack) 26 = .ok (.iastore, 1) := by decide +kernel
theorem d_Mo_putBack_27 : decode (yB Y_Mo_putBack) 27 = .ok (.iinc 2 1, 3) := by decide +kernel
theorem d_Mo_putBack_30 : decode (yB Y_Mo_putBack) 30 = .ok (.goto (-28), 3) := by decide +kernel
theorem d_Mo_putBack_33 : decode (yB Y_Mo_putBack) 33 = .ok (.return_, 1) := by decide +kernel
def F_Mo_putBack_L2 (n : Nat) (E : zE) (S : zS) (r2 : Nat × Int32 × Int32 × zH → Option (zH)) (a0 : Nat) (x1 : Int32) (x2 : Int32) (M : zH) : Option (zH) :=
  if 50 ≤ x2 then
    some (M)
  else
    (zgR S a0 11 3).bind fun b_2 =>
    (zgR S a0 11 6).bind fun b_3 =>
    (zldI S M b_3 ((50 * x1) + x2)).bind fun v_4 =>
    (zstI S M b_2 (4 + x2) v_4).bind fun m_5 =>
    r2 (a0, x1, x2 + 1, m_5)
def F_Mo_putBack_b2 (n : Nat) (E : zE) (S : zS) : Nat × Int32 × Int32 × zH → Option (zH) := zfix (fun r2 s => F_Mo_putBack_L2 n E S r2 s.1 s.2.1 s.2.2.1 s.2.2.2) n
def F_Mo_putBack (n : Nat) (E : zE) (S : zS) (a0 : Nat) (x1 : Int32) (M : zH) : Option (zH) :=
  F_Mo_putBack_b2 n E S (a0, x1, 0, M)
theorem K_Mo_putBack_L2 (n : Nat) (E : zE) (S : zS) (r2 : Nat × Int32 × Int32 × zH → Option (zH)) (a0 : Nat) (x1 : Int32) (x2 : Int32) (M : zH) (M' : zH) (hr2 : ∀ (a0 : Nat) (x1 : Int32) (x2 : Int32) (M : zH), r2 (a0, x1, x2, M) = some M' → zG E Y_Mo_putBack (none, S, M') 2 [(0, .ref a0), (1, .int x1), (2, .int x2)] [] S M 0 0) (h : F_Mo_putBack_L2 n E S r2 a0 x1 x2 M = some M') : zG E Y_Mo_putBack (none, S, M') 2 [(0, .ref a0), (1, .int x1), (2, .int x2)] [] S M 0 0 := by
  unfold F_Mo_putBack_L2 at h
  refine zi_iload_n 2 d_Mo_putBack_2 rfl ?_
  refine zi_bipush 50 d_Mo_putBack_3 rfl ?_
  refine zi_icmp_ge (tgt := 33) d_Mo_putBack_5 rfl (fun c_1 => ?_) (fun c_1 => ?_)
  · rw [if_pos c_1] at h
    cases h
    exact zo_ret d_Mo_putBack_33 (Nat.le_of_ble_eq_true rfl) (Nat.le_of_ble_eq_true rfl) rfl
  · rw [if_neg c_1] at h
    refine zi_aload_n 0 d_Mo_putBack_8 rfl ?_
    obtain ⟨b_2, eb_2, h⟩ := zbind h
    refine zo_getR 12 zkd_11 3 d_Mo_putBack_9 eb_2 rfl tw_1234 rfl ?_
    refine zi_iconst 4 d_Mo_putBack_12 rfl ?_
    refine zi_iload_n 2 d_Mo_putBack_13 rfl ?_
    refine zi_iadd d_Mo_putBack_14 ?_
    refine zi_aload_n 0 d_Mo_putBack_15 rfl ?_
    obtain ⟨b_3, eb_3, h⟩ := zbind h
    refine zo_getR 19 zkd_11 6 d_Mo_putBack_16 eb_3 rfl tw_1237 rfl ?_
    refine zi_bipush 50 d_Mo_putBack_19 rfl ?_
    refine zi_iload_n 1 d_Mo_putBack_21 rfl ?_
    refine zi_imul d_Mo_putBack_22 ?_
    refine zi_iload_n 2 d_Mo_putBack_23 rfl ?_
    refine zi_iadd d_Mo_putBack_24 ?_
    obtain ⟨v_4, ev_4, h⟩ := zbind h
    refine zo_iald 26 d_Mo_putBack_25 ev_4 rfl ?_
    obtain ⟨m_5, em_5, h⟩ := zbind h
    refine zo_iast 27 d_Mo_putBack_26 em_5 rfl ?_
    refine zi_iinc 2 (x2 + 1) [(2, .int (x2 + 1)), (0, .ref a0), (1, .int x1)] d_Mo_putBack_27 rfl rfl (by decide) rfl ?_
    refine zi_goto (tgt := 2) d_Mo_putBack_30 rfl ?_
    refine zi_lo [(0, .ref a0), (1, .int x1), (2, .int (x2 + 1))] [1, 2, 0] rfl ?_
    exact hr2 a0 x1 (x2 + 1) m_5 h
theorem K_Mo_putBack_b2 (n : Nat) (E : zE) (S : zS) (a0 : Nat) (x1 : Int32) (x2 : Int32) (M : zH) (M' : zH)  (h : F_Mo_putBack_b2 n E S (a0, x1, x2, M) = some M') : zG E Y_Mo_putBack (none, S, M') 2 [(0, .ref a0), (1, .int x1), (2, .int x2)] [] S M 0 0 := by
  have key : ∀ (k : Nat) (a0 : Nat) (x1 : Int32) (x2 : Int32) (M : zH), zfix (fun r2 s => F_Mo_putBack_L2 n E S r2 s.1 s.2.1 s.2.2.1 s.2.2.2) k (a0, x1, x2, M) = some M' → zG E Y_Mo_putBack (none, S, M') 2 [(0, .ref a0), (1, .int x1), (2, .int x2)] [] S M 0 0 := by
    intro k
    induction k with
    | zero => intro a0 x1 x2 M h; cases h
    | succ k ih => intro a0 x1 x2 M h; exact K_Mo_putBack_L2 n E S _ a0 x1 x2 M M'  (fun a0 x1 x2 M h => ih a0 x1 x2 M h) h
  exact key n a0 x1 x2 M h
theorem K_Mo_putBack (n : Nat) (E : zE) (S : zS) (a0 : Nat) (x1 : Int32) (M : zH) (M' : zH)  (h : F_Mo_putBack n E S a0 x1 M = some M') : zG E Y_Mo_putBack (none, S, M') 0 [(0, .ref a0), (1, .int x1)] [] S M 0 0 := by
  unfold F_Mo_putBack at h
  refine zi_iconst 0 d_Mo_putBack_0 rfl ?_
  refine zi_istore_n [(2, .int 0), (0, .ref a0), (1, .int x1)] d_Mo_putBack_1 (by decide) rfl ?_
  refine zi_lo [(0, .ref a0), (1, .int x1), (2, .int 0)] [1, 2, 0] rfl ?_
  exact K_Mo_putBack_b2 n E S a0 x1 0 M M'  h
theorem C_Mo_putBack (n : Nat) (E : zE) (S : zS) (a0 : Nat) (x1 : Int32) (M : zH) (M' : zH) (h : F_Mo_putBack n E S a0 x1 M = some M') : zC E Y_Mo_putBack [.ref a0, .int x1] S M (none, S, M') :=
  zC.of (Or.inl (show plainName "NightColanderModel" = true by decide)) (Nat.le_of_ble_eq_true rfl) (trivial) (K_Mo_putBack n E S a0 x1 M M' h)
theorem d_Mo_tell_0 : decode (yB Y_Mo_tell) 0 = .ok (.aload_n 0, 1) := by decide +kernel
theorem d_Mo_tell_1 : decode (yB Y_Mo_tell) 1 = .ok (.iload_n 1, 1) := by decide +kernel
theorem d_Mo_tell_2 : decode (yB Y_Mo_tell) 2 = .ok (.ifCond .ge 7, 3) := by decide +kernel
theorem d_Mo_tell_5 : decode (yB Y_Mo_tell) 5 = .ok (.iload_n 1, 1) := by decide +kernel
theorem d_Mo_tell_6 : decode (yB Y_Mo_tell) 6 = .ok (.goto 4, 3) := by decide +kernel
theorem d_Mo_tell_9 : decode (yB Y_Mo_tell) 9 = .ok (.iconst 0, 1) := by decide +kernel
theorem d_Mo_tell_10 : decode (yB Y_Mo_tell) 10 = .ok (.putfield 159, 3) := by decide +kernel
theorem d_Mo_tell_13 : decode (yB Y_Mo_tell) 13 = .ok (.iload_n 1, 1) := by decide +kernel
theorem d_Mo_tell_14 : decode (yB Y_Mo_tell) 14 = .ok (.ifCond .ge 14, 3) := by decide +kernel
theorem d_Mo_tell_17 : decode (yB Y_Mo_tell) 17 = .ok (.aload_n 0, 1) := by decide +kernel
theorem d_Mo_tell_18 : decode (yB Y_Mo_tell) 18 = .ok (.getfield 7, 3) := by decide +kernel
theorem d_Mo_tell_21 : decode (yB Y_Mo_tell) 21 = .ok (.iload_n 1, 1) := by decide +kernel
theorem d_Mo_tell_22 : decode (yB Y_Mo_tell) 22 = .ok (.ineg, 1) := by decide +kernel
theorem d_Mo_tell_23 : decode (yB Y_Mo_tell) 23 = .ok (.dup2, 1) := by decide +kernel
theorem d_Mo_tell_24 : decode (yB Y_Mo_tell) 24 = .ok (.iaload, 1) := by decide +kernel
theorem d_Mo_tell_25 : decode (yB Y_Mo_tell) 25 = .ok (.iconst 1, 1) := by decide +kernel
theorem d_Mo_tell_26 : decode (yB Y_Mo_tell) 26 = .ok (.iadd, 1) := by decide +kernel
theorem d_Mo_tell_27 : decode (yB Y_Mo_tell) 27 = .ok (.iastore, 1) := by decide +kernel
theorem d_Mo_tell_28 : decode (yB Y_Mo_tell) 28 = .ok (.iload_n 1, 1) := by decide +kernel
theorem d_Mo_tell_29 : decode (yB Y_Mo_tell) 29 = .ok (.ireturn, 1) := by decide +kernel
def F_Mo_tell_b10 (n : Nat) (E : zE) (S : zS) (a0 : Nat) (x1 : Int32) (s0 : Int32) (u1 : Nat) (M : zH) : Option (Int32 × zH) :=
  (zpI S M u1 11 1 s0).bind fun m_1 =>
  if 0 ≤ x1 then
    some (x1, m_1)
  else
    (zgR S a0 11 2).bind fun b_3 =>
    (zldI S m_1 b_3 (-x1)).bind fun v_4 =>
    (zstI S m_1 b_3 (-x1) (v_4 + 1)).bind fun m_5 =>
    some (x1, m_5)
def F_Mo_tell (n : Nat) (E : zE) (S : zS) (a0 : Nat) (x1 : Int32) (M : zH) : Option (Int32 × zH) :=
  if 0 ≤ x1 then
    F_Mo_tell_b10 n E S a0 x1 0 a0 M
  else
    F_Mo_tell_b10 n E S a0 x1 x1 a0 M
theorem K_Mo_tell_b10 (n : Nat) (E : zE) (S : zS) (a0 : Nat) (x1 : Int32) (s0 : Int32) (u1 : Nat) (M : zH) (r : Int32) (M' : zH)  (h : F_Mo_tell_b10 n E S a0 x1 s0 u1 M = some (r, M')) : zG E Y_Mo_tell (some (.int r), S, M') 10 [(0, .ref a0), (1, .int x1)] [.int s0, .ref u1] S M 0 0 := by
  unfold F_Mo_tell_b10 at h
  obtain ⟨m_1, em_1, h⟩ := zbind h
  refine zo_putI 13 zkd_11 1 d_Mo_tell_10 em_1 rfl rfl rfl tw_1232 rfl ?_
  refine zi_iload_n 1 d_Mo_tell_13 rfl ?_
  refine zi_if_ge (tgt := 28) d_Mo_tell_14 rfl (fun c_2 => ?_) (fun c_2 => ?_)
  · rw [if_pos c_2] at h
    refine zi_iload_n 1 d_Mo_tell_28 rfl ?_
    cases h
    exact zo_ret d_Mo_tell_29 (Nat.le_of_ble_eq_true rfl) (Nat.le_of_ble_eq_true rfl) rfl
  · rw [if_neg c_2] at h
    refine zi_aload_n 0 d_Mo_tell_17 rfl ?_
    obtain ⟨b_3, eb_3, h⟩ := zbind h
    refine zo_getR 21 zkd_11 2 d_Mo_tell_18 eb_3 rfl tw_1233 rfl ?_
    refine zi_iload_n 1 d_Mo_tell_21 rfl ?_
    refine zi_ineg d_Mo_tell_22 ?_
    refine zi_dup2 d_Mo_tell_23 rfl rfl ?_
    obtain ⟨v_4, ev_4, h⟩ := zbind h
    refine zo_iald 25 d_Mo_tell_24 ev_4 rfl ?_
    refine zi_iconst 1 d_Mo_tell_25 rfl ?_
    refine zi_iadd d_Mo_tell_26 ?_
    obtain ⟨m_5, em_5, h⟩ := zbind h
    refine zo_iast 28 d_Mo_tell_27 em_5 rfl ?_
    refine zi_iload_n 1 d_Mo_tell_28 rfl ?_
    cases h
    exact zo_ret d_Mo_tell_29 (Nat.le_of_ble_eq_true rfl) (Nat.le_of_ble_eq_true rfl) rfl
theorem K_Mo_tell (n : Nat) (E : zE) (S : zS) (a0 : Nat) (x1 : Int32) (M : zH) (r : Int32) (M' : zH)  (h : F_Mo_tell n E S a0 x1 M = some (r, M')) : zG E Y_Mo_tell (some (.int r), S, M') 0 [(0, .ref a0), (1, .int x1)] [] S M 0 0 := by
  unfold F_Mo_tell at h
  refine zi_aload_n 0 d_Mo_tell_0 rfl ?_
  refine zi_iload_n 1 d_Mo_tell_1 rfl ?_
  refine zi_if_ge (tgt := 9) d_Mo_tell_2 rfl (fun c_6 => ?_) (fun c_6 => ?_)
  · rw [if_pos c_6] at h
    refine zi_iconst 0 d_Mo_tell_9 rfl ?_
    refine zi_lo [(0, .ref a0), (1, .int x1)] [0, 1] rfl ?_
    exact K_Mo_tell_b10 n E S a0 x1 0 a0 M r M'  h
  · rw [if_neg c_6] at h
    refine zi_iload_n 1 d_Mo_tell_5 rfl ?_
    refine zi_goto (tgt := 10) d_Mo_tell_6 rfl ?_
    refine zi_lo [(0, .ref a0), (1, .int x1)] [0, 1] rfl ?_
    exact K_Mo_tell_b10 n E S a0 x1 x1 a0 M r M'  h
theorem C_Mo_tell (n : Nat) (E : zE) (S : zS) (a0 : Nat) (x1 : Int32) (M : zH) (r : Int32) (M' : zH) (h : F_Mo_tell n E S a0 x1 M = some (r, M')) : zC E Y_Mo_tell [.ref a0, .int x1] S M (some (.int r), S, M') :=
  zC.of (Or.inl (show plainName "NightColanderModel" = true by decide)) (Nat.le_of_ble_eq_true rfl) (trivial) (K_Mo_tell n E S a0 x1 M r M' h)
theorem d_Mo_undo_0 : decode (yB Y_Mo_undo) 0 = .ok (.aload_n 0, 1) := by decide +kernel
theorem d_Mo_undo_1 : decode (yB Y_Mo_undo) 1 = .ok (.iconst 0, 1) := by decide +kernel
theorem d_Mo_undo_2 : decode (yB Y_Mo_undo) 2 = .ok (.putfield 156, 3) := by decide +kernel
theorem d_Mo_undo_5 : decode (yB Y_Mo_undo) 5 = .ok (.aload_n 0, 1) := by decide +kernel
theorem d_Mo_undo_6 : decode (yB Y_Mo_undo) 6 = .ok (.getfield 162, 3) := by decide +kernel
theorem d_Mo_undo_9 : decode (yB Y_Mo_undo) 9 = .ok (.ifCond .ne 10, 3) := by decide +kernel
theorem d_Mo_undo_12 : decode (yB Y_Mo_undo) 12 = .ok (.aload_n 0, 1) := by decide +kernel
theorem d_Mo_undo_13 : decode (yB Y_Mo_undo) 13 = .ok (.bipush (-3), 2) := by decide +kernel
theorem d_Mo_undo_15 : decode (yB Y_Mo_undo) 15 = .ok (.invokevirtual 165, 3) := by decide +kernel
theorem d_Mo_undo_18 : decode (yB Y_Mo_undo) 18 = .ok (.ireturn, 1) := by decide +kernel
theorem d_Mo_undo_19 : decode (yB Y_Mo_undo) 19 = .ok (.aload_n 0, 1) := by decide +kernel
theorem d_Mo_undo_20 : decode (yB Y_Mo_undo) 20 = .ok (.dup, 1) := by decide +kernel
theorem d_Mo_undo_21 : decode (yB Y_Mo_undo) 21 = .ok (.getfield 162, 3) := by decide +kernel
theorem d_Mo_undo_24 : decode (yB Y_Mo_undo) 24 = .ok (.iconst 1, 1) := by decide +kernel
theorem d_Mo_undo_25 : decode (yB Y_Mo_undo) 25 = .ok (.isub, 1) := by decide +kernel
theorem d_Mo_undo_26 : decode (yB Y_Mo_undo) 26 = .ok (.putfield 162, 3) := by decide +kernel
theorem d_Mo_undo_29 : decode (yB Y_Mo_undo) 29 = .ok (.aload_n 0, 1) := by decide +kernel
theorem d_Mo_undo_30 : decode (yB Y_Mo_undo) 30 = .ok (.aload_n 0, 1) := by decide +kernel
theorem d_Mo_undo_31 : decode (yB Y_Mo_undo) 31 = .ok (.getfield 162, 3) := by decide +kernel
theorem d_Mo_undo_34 : decode (yB Y_Mo_undo) 34 = .ok (.invokevirtual 173, 3) := by decide +kernel
theorem d_Mo_undo_37 : decode (yB Y_Mo_undo) 37 = .ok (.aload_n 0, 1) := by decide +kernel
theorem d_Mo_undo_38 : decode (yB Y_Mo_undo) 38 = .ok (.aload_n 0, 1) := by decide +kernel
theorem d_Mo_undo_39 : decode (yB Y_Mo_undo) 39 = .ok (.getfield 26, 3) := by decide +kernel
theorem d_Mo_undo_42 : decode (yB Y_Mo_undo) 42 = .ok (.aload_n 0, 1) := by decide +kernel
theorem d_Mo_undo_43 : decode (yB Y_Mo_undo) 43 = .ok (.getfield 162, 3) := by decide +kernel
theorem d_Mo_undo_46 : decode (yB Y_Mo_undo) 46 = .ok (.iaload, 1) := by decide +kernel
theorem d_Mo_undo_47 : decode (yB Y_Mo_undo) 47 = .ok (.invokevirtual 165, 3) := by decide +kernel
theorem d_Mo_undo_50 : decode (yB Y_Mo_undo) 50 = .ok (.ireturn, 1) := by decide +kernel
def F_Mo_undo (n : Nat) (E : zE) (S : zS) (a0 : Nat) (M : zH) : Option (Int32 × zH) :=
  (zpI S M a0 11 0 0).bind fun m_1 =>
  (zgI S m_1 a0 11 8).bind fun v_2 =>
  if v_2 = 0 then
    (F_Mo_tell n E S a0 (-3) m_1).bind fun q_4 =>
    some (q_4.1, q_4.2)
  else
    (zgI S m_1 a0 11 8).bind fun v_5 =>
    (zpI S m_1 a0 11 8 (v_5 - 1)).bind fun m_6 =>
    (zgI S m_6 a0 11 8).bind fun v_7 =>
    (F_Mo_putBack n E S a0 v_7 m_6).bind fun q_8 =>
    (zgR S a0 11 7).bind fun b_9 =>
    (zgI S q_8 a0 11 8).bind fun v_10 =>
    (zldI S q_8 b_9 v_10).bind fun v_11 =>
    (F_Mo_tell n E S a0 v_11 q_8).bind fun q_12 =>
    some (q_12.1, q_12.2)
theorem K_Mo_undo (n : Nat) (E : zE) (S : zS) (a0 : Nat) (M : zH) (r : Int32) (M' : zH)  (h : F_Mo_undo n E S a0 M = some (r, M')) : zG E Y_Mo_undo (some (.int r), S, M') 0 [(0, .ref a0)] [] S M 0 0 := by
  unfold F_Mo_undo at h
  refine zi_aload_n 0 d_Mo_undo_0 rfl ?_
  refine zi_iconst 0 d_Mo_undo_1 rfl ?_
  obtain ⟨m_1, em_1, h⟩ := zbind h
  refine zo_putI 5 zkd_11 0 d_Mo_undo_2 em_1 rfl rfl rfl tw_1231 rfl ?_
  refine zi_aload_n 0 d_Mo_undo_5 rfl ?_
  obtain ⟨v_2, ev_2, h⟩ := zbind h
  refine zo_getI 9 zkd_11 8 d_Mo_undo_6 ev_2 rfl tw_1239 rfl ?_
  refine zi_if_ne (tgt := 19) d_Mo_undo_9 rfl (fun c_3 => ?_) (fun c_3 => ?_)
  · rw [if_neg c_3] at h
    refine zi_aload_n 0 d_Mo_undo_19 rfl ?_
    refine zi_dup d_Mo_undo_20 rfl ?_
    obtain ⟨v_5, ev_5, h⟩ := zbind h
    refine zo_getI 24 zkd_11 8 d_Mo_undo_21 ev_5 rfl tw_1239 rfl ?_
    refine zi_iconst 1 d_Mo_undo_24 rfl ?_
    refine zi_isub d_Mo_undo_25 ?_
    obtain ⟨m_6, em_6, h⟩ := zbind h
    refine zo_putI 29 zkd_11 8 d_Mo_undo_26 em_6 rfl rfl rfl tw_1239 rfl ?_
    refine zi_aload_n 0 d_Mo_undo_29 rfl ?_
    refine zi_aload_n 0 d_Mo_undo_30 rfl ?_
    obtain ⟨v_7, ev_7, h⟩ := zbind h
    refine zo_getI 34 zkd_11 8 d_Mo_undo_31 ev_7 rfl tw_1239 rfl ?_
    obtain ⟨q_8, eq_8, h⟩ := zbind h
    refine zo_virt (k' := 0) (n' := 0) 37 [.int v_7] [] [] zkd_11 (zgI_s ev_2).1 (C_Mo_putBack n E S a0 v_7 m_6 q_8 eq_8) d_Mo_undo_34 tw_1414 tw_1411 tw_1413 ts_37 tw_13 dd_Mo_putBack ⟨Nat.le_of_ble_eq_true rfl, Nat.le_of_ble_eq_true rfl, Nat.le_of_ble_eq_true rfl, Nat.le_of_ble_eq_true rfl⟩ (Nat.le_of_ble_eq_true rfl) rfl rfl rfl rfl ?_
    refine zi_aload_n 0 d_Mo_undo_37 rfl ?_
    refine zi_aload_n 0 d_Mo_undo_38 rfl ?_
    obtain ⟨b_9, eb_9, h⟩ := zbind h
    refine zo_getR 42 zkd_11 7 d_Mo_undo_39 eb_9 rfl tw_1238 rfl ?_
    refine zi_aload_n 0 d_Mo_undo_42 rfl ?_
    obtain ⟨v_10, ev_10, h⟩ := zbind h
    refine zo_getI 46 zkd_11 8 d_Mo_undo_43 ev_10 rfl tw_1239 rfl ?_
    obtain ⟨v_11, ev_11, h⟩ := zbind h
    refine zo_iald 47 d_Mo_undo_46 ev_11 rfl ?_
    obtain ⟨q_12, eq_12, h⟩ := zbind h
    refine zo_virt (k' := 0) (n' := 0) 50 [.int v_11] [] [.int q_12.1] zkd_11 (zgI_s ev_2).1 (C_Mo_tell n E S a0 v_11 q_8 q_12.1 q_12.2 eq_12) d_Mo_undo_47 tw_1410 tw_1407 tw_1409 ts_36 tw_13 dd_Mo_tell ⟨Nat.le_of_ble_eq_true rfl, Nat.le_of_ble_eq_true rfl, Nat.le_of_ble_eq_true rfl, Nat.le_of_ble_eq_true rfl⟩ (Nat.le_of_ble_eq_true rfl) rfl rfl rfl rfl ?_
    cases h
    exact zo_ret d_Mo_undo_50 (Nat.le_of_ble_eq_true rfl) (Nat.le_of_ble_eq_true rfl) rfl
  · rw [if_pos c_3] at h
    refine zi_aload_n 0 d_Mo_undo_12 rfl ?_
    refine zi_bipush (-3) d_Mo_undo_13 rfl ?_
    obtain ⟨q_4, eq_4, h⟩ := zbind h
    refine zo_virt (k' := 0) (n' := 0) 18 [.int (-3)] [] [.int q_4.1] zkd_11 (zgI_s ev_2).1 (C_Mo_tell n E S a0 (-3) m_1 q_4.1 q_4.2 eq_4) d_Mo_undo_15 tw_1410 tw_1407 tw_1409 ts_36 tw_13 dd_Mo_tell ⟨Nat.le_of_ble_eq_true rfl, Nat.le_of_ble_eq_true rfl, Nat.le_of_ble_eq_true rfl, Nat.le_of_ble_eq_true rfl⟩ (Nat.le_of_ble_eq_true rfl) rfl rfl rfl rfl ?_
    cases h
    exact zo_ret d_Mo_undo_18 (Nat.le_of_ble_eq_true rfl) (Nat.le_of_ble_eq_true rfl) rfl
theorem C_Mo_undo (n : Nat) (E : zE) (S : zS) (a0 : Nat) (M : zH) (r : Int32) (M' : zH) (h : F_Mo_undo n E S a0 M = some (r, M')) : zC E Y_Mo_undo [.ref a0] S M (some (.int r), S, M') :=
  zC.of (Or.inl (show plainName "NightColanderModel" = true by decide)) (Nat.le_of_ble_eq_true rfl) (trivial) (K_Mo_undo n E S a0 M r M' h)
theorem d_Mo_in_0 : decode (yB Y_Mo_in) 0 = .ok (.lload_n 0, 1) := by decide +kernel
theorem d_Mo_in_1 : decode (yB Y_Mo_in) 1 = .ok (.lload_n 2, 1) := by decide +kernel
theorem d_Mo_in_2 : decode (yB Y_Mo_in) 2 = .ok (.lcmp, 1) := by decide +kernel
theorem d_Mo_in_3 : decode (yB Y_Mo_in) 3 = .ok (.ifCond .lt 14, 3) := by decide +kernel
theorem d_Mo_in_6 : decode (yB Y_Mo_in) 6 = .ok (.lload_n 0, 1) := by decide +kernel
theorem d_Mo_in_7 : decode (yB Y_Mo_in) 7 = .ok (.lload 4, 2) := by decide +kernel
theorem d_Mo_in_9 : decode (yB Y_Mo_in) 9 = .ok (.lcmp, 1) := by decide +kernel
theorem d_Mo_in_10 : decode (yB Y_Mo_in) 10 = .ok (.ifCond .gt 7, 3) := by decide +kernel
theorem d_Mo_in_13 : decode (yB Y_Mo_in) 13 = .ok (.iconst 1, 1) := by decide +kernel
theorem d_Mo_in_14 : decode (yB Y_Mo_in) 14 = .ok (.goto 4, 3) := by decide +kernel
theorem d_Mo_in_17 : decode (yB Y_Mo_in) 17 = .ok (.iconst 0, 1) := by decide +kernel
theorem d_Mo_in_18 : decode (yB Y_Mo_in) 18 = .ok (.ireturn, 1) := by decide +kernel
def F_Mo_in (n : Nat) (E : zE) (S : zS) (y0 : Int64) (y2 : Int64) (y4 : Int64) (M : zH) : Option (Bool × zH) :=
  if y0 < y2 then
    some (false, M)
  else
    if y4 < y0 then
      some (false, M)
    else
      some (true, M)
theorem K_Mo_in (n : Nat) (E : zE) (S : zS) (y0 : Int64) (y2 : Int64) (y4 : Int64) (M : zH) (r : Bool) (M' : zH)  (h : F_Mo_in n E S y0 y2 y4 M = some (r, M')) : zG E Y_Mo_in (some (.int (bI r)), S, M') 0 [(0, .long y0), (2, .long y2), (4, .long y4)] [] S M 0 0 := by
  unfold F_Mo_in at h
  refine zi_lload_n 0 d_Mo_in_0 rfl ?_
  refine zi_lload_n 1 d_Mo_in_1 rfl ?_
  refine zo_lc_lt d_Mo_in_2 d_Mo_in_3 rfl 6 rfl (fun c_1 => ?_) (fun c_1 => ?_)
  · rw [if_pos c_1] at h
    refine zi_iconst 0 d_Mo_in_17 rfl ?_
    cases h
    exact zo_retB d_Mo_in_18 (Nat.le_of_ble_eq_true rfl) (Nat.le_of_ble_eq_true rfl) rfl
  · rw [if_neg c_1] at h
    refine zi_lload_n 0 d_Mo_in_6 rfl ?_
    refine zi_lload 2 d_Mo_in_7 rfl ?_
    refine zo_lc_gt d_Mo_in_9 d_Mo_in_10 rfl 13 rfl (fun c_2 => ?_) (fun c_2 => ?_)
    · rw [if_pos c_2] at h
      refine zi_iconst 0 d_Mo_in_17 rfl ?_
      cases h
      exact zo_retB d_Mo_in_18 (Nat.le_of_ble_eq_true rfl) (Nat.le_of_ble_eq_true rfl) rfl
    · rw [if_neg c_2] at h
      refine zi_iconst 1 d_Mo_in_13 rfl ?_
      refine zi_goto (tgt := 18) d_Mo_in_14 rfl ?_
      cases h
      exact zo_retB d_Mo_in_18 (Nat.le_of_ble_eq_true rfl) (Nat.le_of_ble_eq_true rfl) rfl
theorem C_Mo_in (n : Nat) (E : zE) (S : zS) (y0 : Int64) (y2 : Int64) (y4 : Int64) (M : zH) (r : Bool) (M' : zH) (h : F_Mo_in n E S y0 y2 y4 M = some (r, M')) : zC E Y_Mo_in [.long y0, .long y2, .long y4] S M (some (.int (bI r)), S, M') :=
  zC.of (Or.inl (show plainName "NightColanderModel" = true by decide)) (Nat.le_of_ble_eq_true rfl) (bI_nar r) (K_Mo_in n E S y0 y2 y4 M r M' h)
theorem d_Mo_image_0 : decode (yB Y_Mo_image) 0 = .ok (.aload_n 0, 1) := by decide +kernel
theorem d_Mo_image_1 : decode (yB Y_Mo_image) 1 = .ok (.iconst 0, 1) := by decide +kernel
theorem d_Mo_image_2 : decode (yB Y_Mo_image) 2 = .ok (.putfield 156, 3) := by decide +kernel
theorem d_Mo_image_5 : decode (yB Y_Mo_image) 5 = .ok (.iload_n 1, 1) := by decide +kernel
theorem d_Mo_image_6 : decode (yB Y_Mo_image) 6 = .ok (.i2l, 1) := by decide +kernel
theorem d_Mo_image_7 : decode (yB Y_Mo_image) 7 = .ok (.lconst 0, 1) := by decide +kernel
theorem d_Mo_image_8 : decode (yB Y_Mo_image) 8 = .ok (.lconst 1, 1) := by decide +kernel
theorem d_Mo_image_9 : decode (yB Y_Mo_image) 9 = .ok (.invokestatic 176, 3) := by decide +kernel
theorem d_Mo_image_12 : decode (yB Y_Mo_image) 12 = .ok (.ifCond .ne 9, 3) := by decide +kernel
theorem d_Mo_image_15 : decode (yB Y_Mo_image) 15 = .ok (.aload_n 0, 1) := by decide +kernel
theorem d_Mo_image_16 : decode (yB Y_Mo_image) 16 = .ok (.iconst (-1), 1) := by decide +kernel
theorem d_Mo_image_17 : decode (yB Y_Mo_image) 17 = .ok (.invokevirtual 165, 3) := by decide +kernel
theorem d_Mo_image_20 : decode (yB Y_Mo_image) 20 = .ok (.ireturn, 1) := by decide +kernel
theorem d_Mo_image_21 : decode (yB Y_Mo_image) 21 = .ok (.iconst 0, 1) := by decide +kernel
theorem d_Mo_image_22 : decode (yB Y_Mo_image) 22 = .ok (.istore_n 2, 1) := by decide +kernel
theorem d_Mo_image_23 : decode (yB Y_Mo_image) 23 = .ok (.iload_n 2, 1) := by decide +kernel
theorem d_Mo_image_24 : decode (yB Y_Mo_image) 24 = .ok (.sipush 5480, 3) := by decide +kernel
theorem d_Mo_image_27 : decode (yB Y_Mo_image) 27 = .ok (.if_icmp .ge 27, 3) := by decide +kernel
theorem d_Mo_image_30 : decode (yB Y_Mo_image) 30 = .ok (.aload_n 0, 1) := by decide +kernel
theorem d_Mo_image_31 : decode (yB Y_Mo_image) 31 = .ok (.getfield 16, 3) := by decide +kernel
theorem d_Mo_image_34 : decode (yB Y_Mo_image) 34 = .ok (.sipush 5480, 3) := by decide +kernel
theorem d_Mo_image_37 : decode (yB Y_Mo_image) 37 = .ok (.iload_n 1, 1) := by decide +kernel
theorem d_Mo_image_38 : decode (yB Y_Mo_image) 38 = .ok (.imul, 1) := by decide +kernel
theorem d_Mo_image_39 : decode (yB Y_Mo_image) 39 = .ok (.iload_n 2, 1) := by decide +kernel
theorem d_Mo_image_40 : decode (yB Y_Mo_image) 40 = .ok (.iadd, 1) := by decide +kernel
theorem d_Mo_image_41 : decode (yB Y_Mo_image) 41 = .ok (.aload_n 0, 1) := by decide +kernel
theorem d_Mo_image_42 : decode (yB Y_Mo_image) 42 = .ok (.getfield 13, 3) := by decide +kernel
theorem d_Mo_image_45 : decode (yB Y_Mo_image) 45 = .ok (.iload_n 2, 1) := by decide +kernel
theorem d_Mo_image_46 : decode (yB Y_Mo_image) 46 = .ok (.iaload, 1) := by decide +kernel
theorem d_Mo_image_47 : decode (yB Y_Mo_image) 47 = .ok (.iastore, 1) := by decide +kernel
theorem d_Mo_image_48 : decode (yB Y_Mo_image) 48 = .ok (.iinc 2 1, 3) := by decide +kernel
theorem d_Mo_image_51 : decode (yB Y_Mo_image) 51 = .ok (.goto (-28), 3) := by decide +kernel
theorem d_Mo_image_54 : decode (yB Y_Mo_image) 54 = .ok (.aload_n 0, 1) := by decide +kernel
theorem d_Mo_image_55 : decode (yB Y_Mo_image) 55 = .ok (.getfield 19, 3) := by decide +kernel
theorem d_Mo_image_58 : decode (yB Y_Mo_image) 58 = .ok (.iload_n 1, 1) := by decide +kernel
theorem d_Mo_image_59 : decode (yB Y_Mo_image) 59 = .ok (.iconst 1, 1) := by decide +kernel
theorem d_Mo_image_60 : decode (yB Y_Mo_image) 60 = .ok (.bastore, 1) := by decide +kernel
theorem d_Mo_image_61 : decode (yB Y_Mo_image) 61 = .ok (.aload_n 0, 1) := by decide +kernel
theorem d_Mo_image_62 : decode (yB Y_Mo_image) 62 = .ok (.iconst 0, 1) := by decide +kernel
theorem d_Mo_image_63 : decode (yB Y_Mo_image) 63 = .ok (.invokevirtual 165, 3) := by decide +kernel
theorem d_Mo_image_66 : decode (yB Y_Mo_image) 66 = .ok (.ireturn, 1) := by decide +kernel
def F_Mo_image_L23 (n : Nat) (E : zE) (S : zS) (r23 : Nat × Int32 × Int32 × zH → Option (Int32 × zH)) (a0 : Nat) (x1 : Int32) (x2 : Int32) (M : zH) : Option (Int32 × zH) :=
  if 5480 ≤ x2 then
    (zgR S a0 11 5).bind fun b_2 =>
    (zstZ S M b_2 x1 1).bind fun m_3 =>
    (F_Mo_tell n E S a0 0 m_3).bind fun q_4 =>
    some (q_4.1, q_4.2)
  else
    (zgR S a0 11 4).bind fun b_5 =>
    (zgR S a0 11 3).bind fun b_6 =>
    (zldI S M b_6 x2).bind fun v_7 =>
    (zstI S M b_5 ((5480 * x1) + x2) v_7).bind fun m_8 =>
    r23 (a0, x1, x2 + 1, m_8)
def F_Mo_image_b23 (n : Nat) (E : zE) (S : zS) : Nat × Int32 × Int32 × zH → Option (Int32 × zH) := zfix (fun r23 s => F_Mo_image_L23 n E S r23 s.1 s.2.1 s.2.2.1 s.2.2.2) n
def F_Mo_image (n : Nat) (E : zE) (S : zS) (a0 : Nat) (x1 : Int32) (M : zH) : Option (Int32 × zH) :=
  (zpI S M a0 11 0 0).bind fun m_9 =>
  (F_Mo_in n E S x1.toInt64 0 1 m_9).bind fun q_10 =>
  if q_10.1 = true then
    F_Mo_image_b23 n E S (a0, x1, 0, q_10.2)
  else
    (zck S a0 11).bind fun u_12 =>
    (F_Mo_tell n E S a0 (-1) q_10.2).bind fun q_13 =>
    some (q_13.1, q_13.2)
theorem K_Mo_image_L23 (n : Nat) (E : zE) (S : zS) (r23 : Nat × Int32 × Int32 × zH → Option (Int32 × zH)) (a0 : Nat) (x1 : Int32) (x2 : Int32) (M : zH) (r : Int32) (M' : zH) (hr23 : ∀ (a0 : Nat) (x1 : Int32) (x2 : Int32) (M : zH), r23 (a0, x1, x2, M) = some (r, M') → zG E Y_Mo_image (some (.int r), S, M') 23 [(0, .ref a0), (1, .int x1), (2, .int x2)] [] S M 0 0) (h : F_Mo_image_L23 n E S r23 a0 x1 x2 M = some (r, M')) : zG E Y_Mo_image (some (.int r), S, M') 23 [(0, .ref a0), (1, .int x1), (2, .int x2)] [] S M 0 0 := by
  unfold F_Mo_image_L23 at h
  refine zi_iload_n 2 d_Mo_image_23 rfl ?_
  refine zi_sipush 5480 d_Mo_image_24 rfl ?_
  refine zi_icmp_ge (tgt := 54) d_Mo_image_27 rfl (fun c_1 => ?_) (fun c_1 => ?_)
  · rw [if_pos c_1] at h
    refine zi_aload_n 0 d_Mo_image_54 rfl ?_
    obtain ⟨b_2, eb_2, h⟩ := zbind h
    refine zo_getR 58 zkd_11 5 d_Mo_image_55 eb_2 rfl tw_1236 rfl ?_
    refine zi_iload_n 1 d_Mo_image_58 rfl ?_
    refine zi_iconst 1 d_Mo_image_59 rfl ?_
    obtain ⟨m_3, em_3, h⟩ := zbind h
    refine zo_zast 61 d_Mo_image_60 em_3 rfl ?_
    refine zi_aload_n 0 d_Mo_image_61 rfl ?_
    refine zi_iconst 0 d_Mo_image_62 rfl ?_
    obtain ⟨q_4, eq_4, h⟩ := zbind h
    refine zo_virt (k' := 0) (n' := 0) 66 [.int 0] [] [.int q_4.1] zkd_11 (zgR_s eb_2).1 (C_Mo_tell n E S a0 0 m_3 q_4.1 q_4.2 eq_4) d_Mo_image_63 tw_1410 tw_1407 tw_1409 ts_36 tw_13 dd_Mo_tell ⟨Nat.le_of_ble_eq_true rfl, Nat.le_of_ble_eq_true rfl, Nat.le_of_ble_eq_true rfl, Nat.le_of_ble_eq_true rfl⟩ (Nat.le_of_ble_eq_true rfl) rfl rfl rfl rfl ?_
    cases h
    exact zo_ret d_Mo_image_66 (Nat.le_of_ble_eq_true rfl) (Nat.le_of_ble_eq_true rfl) rfl
  · rw [if_neg c_1] at h
    refine zi_aload_n 0 d_Mo_image_30 rfl ?_
    obtain ⟨b_5, eb_5, h⟩ := zbind h
    refine zo_getR 34 zkd_11 4 d_Mo_image_31 eb_5 rfl tw_1235 rfl ?_
    refine zi_sipush 5480 d_Mo_image_34 rfl ?_
    refine zi_iload_n 1 d_Mo_image_37 rfl ?_
    refine zi_imul d_Mo_image_38 ?_
    refine zi_iload_n 2 d_Mo_image_39 rfl ?_
    refine zi_iadd d_Mo_image_40 ?_
    refine zi_aload_n 0 d_Mo_image_41 rfl ?_
    obtain ⟨b_6, eb_6, h⟩ := zbind h
    refine zo_getR 45 zkd_11 3 d_Mo_image_42 eb_6 rfl tw_1234 rfl ?_
    refine zi_iload_n 2 d_Mo_image_45 rfl ?_
    obtain ⟨v_7, ev_7, h⟩ := zbind h
    refine zo_iald 47 d_Mo_image_46 ev_7 rfl ?_
    obtain ⟨m_8, em_8, h⟩ := zbind h
    refine zo_iast 48 d_Mo_image_47 em_8 rfl ?_
    refine zi_iinc 2 (x2 + 1) [(2, .int (x2 + 1)), (0, .ref a0), (1, .int x1)] d_Mo_image_48 rfl rfl (by decide) rfl ?_
    refine zi_goto (tgt := 23) d_Mo_image_51 rfl ?_
    refine zi_lo [(0, .ref a0), (1, .int x1), (2, .int (x2 + 1))] [1, 2, 0] rfl ?_
    exact hr23 a0 x1 (x2 + 1) m_8 h
theorem K_Mo_image_b23 (n : Nat) (E : zE) (S : zS) (a0 : Nat) (x1 : Int32) (x2 : Int32) (M : zH) (r : Int32) (M' : zH)  (h : F_Mo_image_b23 n E S (a0, x1, x2, M) = some (r, M')) : zG E Y_Mo_image (some (.int r), S, M') 23 [(0, .ref a0), (1, .int x1), (2, .int x2)] [] S M 0 0 := by
  have key : ∀ (k : Nat) (a0 : Nat) (x1 : Int32) (x2 : Int32) (M : zH), zfix (fun r23 s => F_Mo_image_L23 n E S r23 s.1 s.2.1 s.2.2.1 s.2.2.2) k (a0, x1, x2, M) = some (r, M') → zG E Y_Mo_image (some (.int r), S, M') 23 [(0, .ref a0), (1, .int x1), (2, .int x2)] [] S M 0 0 := by
    intro k
    induction k with
    | zero => intro a0 x1 x2 M h; cases h
    | succ k ih => intro a0 x1 x2 M h; exact K_Mo_image_L23 n E S _ a0 x1 x2 M r M'  (fun a0 x1 x2 M h => ih a0 x1 x2 M h) h
  exact key n a0 x1 x2 M h
theorem K_Mo_image (n : Nat) (E : zE) (S : zS) (a0 : Nat) (x1 : Int32) (M : zH) (r : Int32) (M' : zH)  (h : F_Mo_image n E S a0 x1 M = some (r, M')) : zG E Y_Mo_image (some (.int r), S, M') 0 [(0, .ref a0), (1, .int x1)] [] S M 0 0 := by
  unfold F_Mo_image at h
  refine zi_aload_n 0 d_Mo_image_0 rfl ?_
  refine zi_iconst 0 d_Mo_image_1 rfl ?_
  obtain ⟨m_9, em_9, h⟩ := zbind h
  refine zo_putI 5 zkd_11 0 d_Mo_image_2 em_9 rfl rfl rfl tw_1231 rfl ?_
  refine zi_iload_n 1 d_Mo_image_5 rfl ?_
  refine zi_i2l d_Mo_image_6 ?_
  refine zi_lconst 0 d_Mo_image_7 rfl ?_
  refine zi_lconst 1 d_Mo_image_8 rfl ?_
  obtain ⟨q_10, eq_10, h⟩ := zbind h
  refine zo_stat (k' := 0) (n' := 0) 12 [.long x1.toInt64, .long 0, .long 1] [] [.int (bI q_10.1)] (C_Mo_in n E S x1.toInt64 0 1 m_9 q_10.1 q_10.2 eq_10) d_Mo_image_9 tw_1421 tw_1419 tw_1420 tw_13 dd_Mo_in ⟨Nat.le_of_ble_eq_true rfl, Nat.le_of_ble_eq_true rfl, Nat.le_of_ble_eq_true rfl, Nat.le_of_ble_eq_true rfl⟩ (Nat.le_of_ble_eq_true rfl) rfl rfl rfl rfl ?_
  refine zo_ifneB d_Mo_image_12 rfl 15 rfl (fun c_11 => ?_) (fun c_11 => ?_)
  · rw [if_pos c_11] at h
    refine zi_iconst 0 d_Mo_image_21 rfl ?_
    refine zi_istore_n [(2, .int 0), (0, .ref a0), (1, .int x1)] d_Mo_image_22 (by decide) rfl ?_
    refine zi_lo [(0, .ref a0), (1, .int x1), (2, .int 0)] [1, 2, 0] rfl ?_
    exact K_Mo_image_b23 n E S a0 x1 0 q_10.2 r M'  h
  · rw [if_neg c_11] at h
    refine zi_aload_n 0 d_Mo_image_15 rfl ?_
    refine zi_iconst (-1) d_Mo_image_16 rfl ?_
    obtain ⟨u_12, eu_12, h⟩ := zbind h
    obtain ⟨q_13, eq_13, h⟩ := zbind h
    refine zo_virt (k' := 0) (n' := 0) 20 [.int (-1)] [] [.int q_13.1] zkd_11 (zck_s eu_12) (C_Mo_tell n E S a0 (-1) q_10.2 q_13.1 q_13.2 eq_13) d_Mo_image_17 tw_1410 tw_1407 tw_1409 ts_36 tw_13 dd_Mo_tell ⟨Nat.le_of_ble_eq_true rfl, Nat.le_of_ble_eq_true rfl, Nat.le_of_ble_eq_true rfl, Nat.le_of_ble_eq_true rfl⟩ (Nat.le_of_ble_eq_true rfl) rfl rfl rfl rfl ?_
    cases h
    exact zo_ret d_Mo_image_20 (Nat.le_of_ble_eq_true rfl) (Nat.le_of_ble_eq_true rfl) rfl
theorem C_Mo_image (n : Nat) (E : zE) (S : zS) (a0 : Nat) (x1 : Int32) (M : zH) (r : Int32) (M' : zH) (h : F_Mo_image n E S a0 x1 M = some (r, M')) : zC E Y_Mo_image [.ref a0, .int x1] S M (some (.int r), S, M') :=
  zC.of (Or.inl (show plainName "NightColanderModel" = true by decide)) (Nat.le_of_ble_eq_true rfl) (trivial) (K_Mo_image n E S a0 x1 M r M' h)
theorem d_Mo_lasting_0 : decode (yB Y_Mo_lasting) 0 = .ok (.aload_n 0, 1) := by decide +kernel
theorem d_Mo_lasting_1 : decode (yB Y_Mo_lasting) 1 = .ok (.iload_n 1, 1) := by decide +kernel
theorem d_Mo_lasting_2 : decode (yB Y_Mo_lasting) 2 = .ok (.ifCond .ge 10, 3) := by decide +kernel
theorem d_Mo_lasting_5 : decode (yB Y_Mo_lasting) 5 = .ok (.aload_n 0, 1) := by decide +kernel
theorem d_Mo_lasting_6 : decode (yB Y_Mo_lasting) 6 = .ok (.getfield 162, 3) := by decide +kernel
theorem d_Mo_lasting_9 : decode (yB Y_Mo_lasting) 9 = .ok (.goto 4, 3) := by decide +kernel
theorem d_Mo_lasting_12 : decode (yB Y_Mo_lasting) 12 = .ok (.iconst 0, 1) := by decide +kernel
theorem d_Mo_lasting_13 : decode (yB Y_Mo_lasting) 13 = .ok (.putfield 162, 3) := by decide +kernel
theorem d_Mo_lasting_16 : decode (yB Y_Mo_lasting) 16 = .ok (.aload_n 0, 1) := by decide +kernel
theorem d_Mo_lasting_17 : decode (yB Y_Mo_lasting) 17 = .ok (.iload_n 1, 1) := by decide +kernel
theorem d_Mo_lasting_18 : decode (yB Y_Mo_lasting) 18 = .ok (.invokevirtual 165, 3) := by decide +kernel
theorem d_Mo_lasting_21 : decode (yB Y_Mo_lasting) 21 = .ok (.ireturn, 1) := by decide +kernel
def F_Mo_lasting_b13 (n : Nat) (E : zE) (S : zS) (a0 : Nat) (x1 : Int32) (s0 : Int32) (u1 : Nat) (M : zH) : Option (Int32 × zH) :=
  (zpI S M u1 11 8 s0).bind fun m_1 =>
  (zck S a0 11).bind fun u_2 =>
  (F_Mo_tell n E S a0 x1 m_1).bind fun q_3 =>
  some (q_3.1, q_3.2)
def F_Mo_lasting (n : Nat) (E : zE) (S : zS) (a0 : Nat) (x1 : Int32) (M : zH) : Option (Int32 × zH) :=
  if 0 ≤ x1 then
    F_Mo_lasting_b13 n E S a0 x1 0 a0 M
  else
    (zgI S M a0 11 8).bind fun v_5 =>
    F_Mo_lasting_b13 n E S a0 x1 v_5 a0 M
theorem K_Mo_lasting_b13 (n : Nat) (E : zE) (S : zS) (a0 : Nat) (x1 : Int32) (s0 : Int32) (u1 : Nat) (M : zH) (r : Int32) (M' : zH)  (h : F_Mo_lasting_b13 n E S a0 x1 s0 u1 M = some (r, M')) : zG E Y_Mo_lasting (some (.int r), S, M') 13 [(0, .ref a0), (1, .int x1)] [.int s0, .ref u1] S M 0 0 := by
  unfold F_Mo_lasting_b13 at h
  obtain ⟨m_1, em_1, h⟩ := zbind h
  refine zo_putI 16 zkd_11 8 d_Mo_lasting_13 em_1 rfl rfl rfl tw_1239 rfl ?_
  refine zi_aload_n 0 d_Mo_lasting_16 rfl ?_
  refine zi_iload_n 1 d_Mo_lasting_17 rfl ?_
  obtain ⟨u_2, eu_2, h⟩ := zbind h
  obtain ⟨q_3, eq_3, h⟩ := zbind h
  refine zo_virt (k' := 0) (n' := 0) 21 [.int x1] [] [.int q_3.1] zkd_11 (zck_s eu_2) (C_Mo_tell n E S a0 x1 m_1 q_3.1 q_3.2 eq_3) d_Mo_lasting_18 tw_1410 tw_1407 tw_1409 ts_36 tw_13 dd_Mo_tell ⟨Nat.le_of_ble_eq_true rfl, Nat.le_of_ble_eq_true rfl, Nat.le_of_ble_eq_true rfl, Nat.le_of_ble_eq_true rfl⟩ (Nat.le_of_ble_eq_true rfl) rfl rfl rfl rfl ?_
  cases h
  exact zo_ret d_Mo_lasting_21 (Nat.le_of_ble_eq_true rfl) (Nat.le_of_ble_eq_true rfl) rfl
theorem K_Mo_lasting (n : Nat) (E : zE) (S : zS) (a0 : Nat) (x1 : Int32) (M : zH) (r : Int32) (M' : zH)  (h : F_Mo_lasting n E S a0 x1 M = some (r, M')) : zG E Y_Mo_lasting (some (.int r), S, M') 0 [(0, .ref a0), (1, .int x1)] [] S M 0 0 := by
  unfold F_Mo_lasting at h
  refine zi_aload_n 0 d_Mo_lasting_0 rfl ?_
  refine zi_iload_n 1 d_Mo_lasting_1 rfl ?_
  refine zi_if_ge (tgt := 12) d_Mo_lasting_2 rfl (fun c_4 => ?_) (fun c_4 => ?_)
  · rw [if_pos c_4] at h
    refine zi_iconst 0 d_Mo_lasting_12 rfl ?_
    refine zi_lo [(0, .ref a0), (1, .int x1)] [0, 1] rfl ?_
    exact K_Mo_lasting_b13 n E S a0 x1 0 a0 M r M'  h
  · rw [if_neg c_4] at h
    refine zi_aload_n 0 d_Mo_lasting_5 rfl ?_
    obtain ⟨v_5, ev_5, h⟩ := zbind h
    refine zo_getI 9 zkd_11 8 d_Mo_lasting_6 ev_5 rfl tw_1239 rfl ?_
    refine zi_goto (tgt := 13) d_Mo_lasting_9 rfl ?_
    refine zi_lo [(0, .ref a0), (1, .int x1)] [0, 1] rfl ?_
    exact K_Mo_lasting_b13 n E S a0 x1 v_5 a0 M r M'  h
theorem C_Mo_lasting (n : Nat) (E : zE) (S : zS) (a0 : Nat) (x1 : Int32) (M : zH) (r : Int32) (M' : zH) (h : F_Mo_lasting n E S a0 x1 M = some (r, M')) : zC E Y_Mo_lasting [.ref a0, .int x1] S M (some (.int r), S, M') :=
  zC.of (Or.inl (show plainName "NightColanderModel" = true by decide)) (Nat.le_of_ble_eq_true rfl) (trivial) (K_Mo_lasting n E S a0 x1 M r M' h)
theorem d_Mo_back_0 : decode (yB Y_Mo_back) 0 = .ok (.aload_n 0, 1) := by decide +kernel
theorem d_Mo_back_1 : decode (yB Y_Mo_back) 1 = .ok (.iconst 0, 1) := by decide +kernel
theorem d_Mo_back_2 : decode (yB Y_Mo_back) 2 = .ok (.putfield 156, 3) := by decide +kernel
theorem d_Mo_back_5 : decode (yB Y_Mo_back) 5 = .ok (.iload_n 1, 1) := by decide +kernel
theorem d_Mo_back_6 : decode (yB Y_Mo_back) 6 = .ok (.i2l, 1) := by decide +kernel
theorem d_Mo_back_7 : decode (yB Y_Mo_back) 7 = .ok (.lconst 0, 1) := by decide +kernel
theorem d_Mo_back_8 : decode (yB Y_Mo_back) 8 = .ok (.lconst 1, 1) := by decide +kernel
theorem d_Mo_back_9 : decode (yB Y_Mo_back) 9 = .ok (.invokestatic 176, 3) := by decide +kernel
theorem d_Mo_back_12 : decode (yB Y_Mo_back) 12 = .ok (.ifCond .ne 9, 3) := by decide +kernel
theorem d_Mo_back_15 : decode (yB Y_Mo_back) 15 = .ok (.aload_n 0, 1) := by decide +kernel
theorem d_Mo_back_16 : decode (yB Y_Mo_back) 16 = .ok (.iconst (-1), 1) := by decide +kernel
theorem d_Mo_back_17 : decode (yB Y_Mo_back) 17 = .ok (.invokevirtual 165, 3) := by decide +kernel
theorem d_Mo_back_20 : decode (yB Y_Mo_back) 20 = .ok (.ireturn, 1) := by decide +kernel
theorem d_Mo_back_21 : decode (yB Y_Mo_back) 21 = .ok (.aload_n 0, 1) := by decide +kernel
theorem d_Mo_back_22 : decode (yB Y_Mo_back) 22 = .ok (.getfield 19, 3) := by decide +kernel
theorem d_Mo_back_25 : decode (yB Y_Mo_back) 25 = .ok (.iload_n 1, 1) := by decide +kernel
theorem d_Mo_back_26 : decode (yB Y_Mo_back) 26 = .ok (.baload, 1) := by decide +kernel
theorem d_Mo_back_27 : decode (yB Y_Mo_back) 27 = .ok (.ifCond .ne 10, 3) := by decide +kernel
theorem d_Mo_back_30 : decode (yB Y_Mo_back) 30 = .ok (.aload_n 0, 1) := by decide +kernel
theorem d_Mo_back_31 : decode (yB Y_Mo_back) 31 = .ok (.bipush (-2), 2) := by decide +kernel
theorem d_Mo_back_33 : decode (yB Y_Mo_back) 33 = .ok (.invokevirtual 165, 3) := by decide +kernel
theorem d_Mo_back_36 : decode (yB Y_Mo_back) 36 = .ok (.ireturn, 1) := by decide +kernel
theorem d_Mo_back_37 : decode (yB Y_Mo_back) 37 = .ok (.iconst 0, 1) := by decide +kernel
theorem d_Mo_back_38 : decode (yB Y_Mo_back) 38 = .ok (.istore_n 2, 1) := by decide +kernel
theorem d_Mo_back_39 : decode (yB Y_Mo_back) 39 = .ok (.iload_n 2, 1) := by decide +kernel
theorem d_Mo_back_40 : decode (yB Y_Mo_back) 40 = .ok (.sipush 5480, 3) := by decide +kernel
theorem d_Mo_back_43 : decode (yB Y_Mo_back) 43 = .ok (.if_icmp .ge 27, 3) := by decide +kernel
theorem d_Mo_back_46 : decode (yB Y_Mo_back) 46 = .ok (.aload_n 0, 1) := by decide +kernel
theorem d_Mo_back_47 : decode (yB Y_Mo_back) 47 = .ok (.getfield 13, 3) := by decide +kernel
theorem d_Mo_back_50 : decode (yB Y_Mo_back) 50 = .ok (.iload_n 2, 1) := by decide +kernel
theorem d_Mo_back_51 : decode (yB Y_Mo_back) 51 = .ok (.aload_n 0, 1) := by decide +kernel
theorem d_Mo_back_52 : decode (yB Y_Mo_back) 52 = .ok (.getfield 16, 3) := by decide +kernel
theorem d_Mo_back_55 : decode (yB Y_Mo_back) 55 = .ok (.sipush 5480, 3) := by decide +kernel
theorem d_Mo_back_58 : decode (yB Y_Mo_back) 58 = .ok (.iload_n 1, 1) := by decide +kernel
theorem d_Mo_back_59 : decode (yB Y_Mo_back) 59 = .ok (.imul, 1) := by decide +kernel
theorem d_Mo_back_60 : decode (yB Y_Mo_back) 60 = .ok (.iload_n 2, 1) := by decide +kernel
theorem d_Mo_back_61 : decode (yB Y_Mo_back) 61 = .ok (.iadd, 1) := by decide +kernel
theorem d_Mo_back_62 : decode (yB Y_Mo_back) 62 = .ok (.iaload, 1) := by decide +kernel
theorem d_Mo_back_63 : decode (yB Y_Mo_back) 63 = .ok (.iastore, 1) := by decide +kernel
theorem d_Mo_back_64 : decode (yB Y_Mo_back) 64 = .ok (.iinc 2 1, 3) := by decide +kernel
theorem d_Mo_back_67 : decode (yB Y_Mo_back) 67 = .ok (.goto (-28), 3) := by decide +kernel
theorem d_Mo_back_70 : decode (yB Y_Mo_back) 70 = .ok (.aload_n 0, 1) := by decide +kernel
theorem d_Mo_back_71 : decode (yB Y_Mo_back) 71 = .ok (.iconst 0, 1) := by decide +kernel
theorem d_Mo_back_72 : decode (yB Y_Mo_back) 72 = .ok (.invokevirtual 180, 3) := by decide +kernel
theorem d_Mo_back_75 : decode (yB Y_Mo_back) 75 = .ok (.ireturn, 1) := by decide +kernel
def F_Mo_back_L39 (n : Nat) (E : zE) (S : zS) (r39 : Nat × Int32 × Int32 × zH → Option (Int32 × zH)) (a0 : Nat) (x1 : Int32) (x2 : Int32) (M : zH) : Option (Int32 × zH) :=
  if 5480 ≤ x2 then
    (zck S a0 11).bind fun u_2 =>
    (F_Mo_lasting n E S a0 0 M).bind fun q_3 =>
    some (q_3.1, q_3.2)
  else
    (zgR S a0 11 3).bind fun b_4 =>
    (zgR S a0 11 4).bind fun b_5 =>
    (zldI S M b_5 ((5480 * x1) + x2)).bind fun v_6 =>
    (zstI S M b_4 x2 v_6).bind fun m_7 =>
    r39 (a0, x1, x2 + 1, m_7)
def F_Mo_back_b39 (n : Nat) (E : zE) (S : zS) : Nat × Int32 × Int32 × zH → Option (Int32 × zH) := zfix (fun r39 s => F_Mo_back_L39 n E S r39 s.1 s.2.1 s.2.2.1 s.2.2.2) n
def F_Mo_back (n : Nat) (E : zE) (S : zS) (a0 : Nat) (x1 : Int32) (M : zH) : Option (Int32 × zH) :=
  (zpI S M a0 11 0 0).bind fun m_8 =>
  (F_Mo_in n E S x1.toInt64 0 1 m_8).bind fun q_9 =>
  if q_9.1 = true then
    (zgR S a0 11 5).bind fun b_11 =>
    (zldZ S q_9.2 b_11 x1).bind fun v_12 =>
    if v_12 = 0 then
      (F_Mo_tell n E S a0 (-2) q_9.2).bind fun q_14 =>
      some (q_14.1, q_14.2)
    else
      F_Mo_back_b39 n E S (a0, x1, 0, q_9.2)
  else
    (zck S a0 11).bind fun u_15 =>
    (F_Mo_tell n E S a0 (-1) q_9.2).bind fun q_16 =>
    some (q_16.1, q_16.2)
theorem K_Mo_back_L39 (n : Nat) (E : zE) (S : zS) (r39 : Nat × Int32 × Int32 × zH → Option (Int32 × zH)) (a0 : Nat) (x1 : Int32) (x2 : Int32) (M : zH) (r : Int32) (M' : zH) (hr39 : ∀ (a0 : Nat) (x1 : Int32) (x2 : Int32) (M : zH), r39 (a0, x1, x2, M) = some (r, M') → zG E Y_Mo_back (some (.int r), S, M') 39 [(0, .ref a0), (1, .int x1), (2, .int x2)] [] S M 0 0) (h : F_Mo_back_L39 n E S r39 a0 x1 x2 M = some (r, M')) : zG E Y_Mo_back (some (.int r), S, M') 39 [(0, .ref a0), (1, .int x1), (2, .int x2)] [] S M 0 0 := by
  unfold F_Mo_back_L39 at h
  refine zi_iload_n 2 d_Mo_back_39 rfl ?_
  refine zi_sipush 5480 d_Mo_back_40 rfl ?_
  refine zi_icmp_ge (tgt := 70) d_Mo_back_43 rfl (fun c_1 => ?_) (fun c_1 => ?_)
  · rw [if_pos c_1] at h
    refine zi_aload_n 0 d_Mo_back_70 rfl ?_
    refine zi_iconst 0 d_Mo_back_71 rfl ?_
    obtain ⟨u_2, eu_2, h⟩ := zbind h
    obtain ⟨q_3, eq_3, h⟩ := zbind h
    refine zo_virt (k' := 0) (n' := 0) 75 [.int 0] [] [.int q_3.1] zkd_11 (zck_s eu_2) (C_Mo_lasting n E S a0 0 M q_3.1 q_3.2 eq_3) d_Mo_back_72 tw_1429 tw_1426 tw_1428 ts_38 tw_13 dd_Mo_lasting ⟨Nat.le_of_ble_eq_true rfl, Nat.le_of_ble_eq_true rfl, Nat.le_of_ble_eq_true rfl, Nat.le_of_ble_eq_true rfl⟩ (Nat.le_of_ble_eq_true rfl) rfl rfl rfl rfl ?_
    cases h
    exact zo_ret d_Mo_back_75 (Nat.le_of_ble_eq_true rfl) (Nat.le_of_ble_eq_true rfl) rfl
  · rw [if_neg c_1] at h
    refine zi_aload_n 0 d_Mo_back_46 rfl ?_
    obtain ⟨b_4, eb_4, h⟩ := zbind h
    refine zo_getR 50 zkd_11 3 d_Mo_back_47 eb_4 rfl tw_1234 rfl ?_
    refine zi_iload_n 2 d_Mo_back_50 rfl ?_
    refine zi_aload_n 0 d_Mo_back_51 rfl ?_
    obtain ⟨b_5, eb_5, h⟩ := zbind h
    refine zo_getR 55 zkd_11 4 d_Mo_back_52 eb_5 rfl tw_1235 rfl ?_
    refine zi_sipush 5480 d_Mo_back_55 rfl ?_
    refine zi_iload_n 1 d_Mo_back_58 rfl ?_
    refine zi_imul d_Mo_back_59 ?_
    refine zi_iload_n 2 d_Mo_back_60 rfl ?_
    refine zi_iadd d_Mo_back_61 ?_
    obtain ⟨v_6, ev_6, h⟩ := zbind h
    refine zo_iald 63 d_Mo_back_62 ev_6 rfl ?_
    obtain ⟨m_7, em_7, h⟩ := zbind h
    refine zo_iast 64 d_Mo_back_63 em_7 rfl ?_
    refine zi_iinc 2 (x2 + 1) [(2, .int (x2 + 1)), (0, .ref a0), (1, .int x1)] d_Mo_back_64 rfl rfl (by decide) rfl ?_
    refine zi_goto (tgt := 39) d_Mo_back_67 rfl ?_
    refine zi_lo [(0, .ref a0), (1, .int x1), (2, .int (x2 + 1))] [1, 2, 0] rfl ?_
    exact hr39 a0 x1 (x2 + 1) m_7 h
theorem K_Mo_back_b39 (n : Nat) (E : zE) (S : zS) (a0 : Nat) (x1 : Int32) (x2 : Int32) (M : zH) (r : Int32) (M' : zH)  (h : F_Mo_back_b39 n E S (a0, x1, x2, M) = some (r, M')) : zG E Y_Mo_back (some (.int r), S, M') 39 [(0, .ref a0), (1, .int x1), (2, .int x2)] [] S M 0 0 := by
  have key : ∀ (k : Nat) (a0 : Nat) (x1 : Int32) (x2 : Int32) (M : zH), zfix (fun r39 s => F_Mo_back_L39 n E S r39 s.1 s.2.1 s.2.2.1 s.2.2.2) k (a0, x1, x2, M) = some (r, M') → zG E Y_Mo_back (some (.int r), S, M') 39 [(0, .ref a0), (1, .int x1), (2, .int x2)] [] S M 0 0 := by
    intro k
    induction k with
    | zero => intro a0 x1 x2 M h; cases h
    | succ k ih => intro a0 x1 x2 M h; exact K_Mo_back_L39 n E S _ a0 x1 x2 M r M'  (fun a0 x1 x2 M h => ih a0 x1 x2 M h) h
  exact key n a0 x1 x2 M h
theorem K_Mo_back (n : Nat) (E : zE) (S : zS) (a0 : Nat) (x1 : Int32) (M : zH) (r : Int32) (M' : zH)  (h : F_Mo_back n E S a0 x1 M = some (r, M')) : zG E Y_Mo_back (some (.int r), S, M') 0 [(0, .ref a0), (1, .int x1)] [] S M 0 0 := by
  unfold F_Mo_back at h
  refine zi_aload_n 0 d_Mo_back_0 rfl ?_
  refine zi_iconst 0 d_Mo_back_1 rfl ?_
  obtain ⟨m_8, em_8, h⟩ := zbind h
  refine zo_putI 5 zkd_11 0 d_Mo_back_2 em_8 rfl rfl rfl tw_1231 rfl ?_
  refine zi_iload_n 1 d_Mo_back_5 rfl ?_
  refine zi_i2l d_Mo_back_6 ?_
  refine zi_lconst 0 d_Mo_back_7 rfl ?_
  refine zi_lconst 1 d_Mo_back_8 rfl ?_
  obtain ⟨q_9, eq_9, h⟩ := zbind h
  refine zo_stat (k' := 0) (n' := 0) 12 [.long x1.toInt64, .long 0, .long 1] [] [.int (bI q_9.1)] (C_Mo_in n E S x1.toInt64 0 1 m_8 q_9.1 q_9.2 eq_9) d_Mo_back_9 tw_1421 tw_1419 tw_1420 tw_13 dd_Mo_in ⟨Nat.le_of_ble_eq_true rfl, Nat.le_of_ble_eq_true rfl, Nat.le_of_ble_eq_true rfl, Nat.le_of_ble_eq_true rfl⟩ (Nat.le_of_ble_eq_true rfl) rfl rfl rfl rfl ?_
  refine zo_ifneB d_Mo_back_12 rfl 15 rfl (fun c_10 => ?_) (fun c_10 => ?_)
  · rw [if_pos c_10] at h
    refine zi_aload_n 0 d_Mo_back_21 rfl ?_
    obtain ⟨b_11, eb_11, h⟩ := zbind h
    refine zo_getR 25 zkd_11 5 d_Mo_back_22 eb_11 rfl tw_1236 rfl ?_
    refine zi_iload_n 1 d_Mo_back_25 rfl ?_
    obtain ⟨v_12, ev_12, h⟩ := zbind h
    refine zo_zald 27 d_Mo_back_26 ev_12 rfl ?_
    refine zi_if_ne (tgt := 37) d_Mo_back_27 rfl (fun c_13 => ?_) (fun c_13 => ?_)
    · rw [if_neg c_13] at h
      refine zi_iconst 0 d_Mo_back_37 rfl ?_
      refine zi_istore_n [(2, .int 0), (0, .ref a0), (1, .int x1)] d_Mo_back_38 (by decide) rfl ?_
      refine zi_lo [(0, .ref a0), (1, .int x1), (2, .int 0)] [1, 2, 0] rfl ?_
      exact K_Mo_back_b39 n E S a0 x1 0 q_9.2 r M'  h
    · rw [if_pos c_13] at h
      refine zi_aload_n 0 d_Mo_back_30 rfl ?_
      refine zi_bipush (-2) d_Mo_back_31 rfl ?_
      obtain ⟨q_14, eq_14, h⟩ := zbind h
      refine zo_virt (k' := 0) (n' := 0) 36 [.int (-2)] [] [.int q_14.1] zkd_11 (zgR_s eb_11).1 (C_Mo_tell n E S a0 (-2) q_9.2 q_14.1 q_14.2 eq_14) d_Mo_back_33 tw_1410 tw_1407 tw_1409 ts_36 tw_13 dd_Mo_tell ⟨Nat.le_of_ble_eq_true rfl, Nat.le_of_ble_eq_true rfl, Nat.le_of_ble_eq_true rfl, Nat.le_of_ble_eq_true rfl⟩ (Nat.le_of_ble_eq_true rfl) rfl rfl rfl rfl ?_
      cases h
      exact zo_ret d_Mo_back_36 (Nat.le_of_ble_eq_true rfl) (Nat.le_of_ble_eq_true rfl) rfl
  · rw [if_neg c_10] at h
    refine zi_aload_n 0 d_Mo_back_15 rfl ?_
    refine zi_iconst (-1) d_Mo_back_16 rfl ?_
    obtain ⟨u_15, eu_15, h⟩ := zbind h
    obtain ⟨q_16, eq_16, h⟩ := zbind h
    refine zo_virt (k' := 0) (n' := 0) 20 [.int (-1)] [] [.int q_16.1] zkd_11 (zck_s eu_15) (C_Mo_tell n E S a0 (-1) q_9.2 q_16.1 q_16.2 eq_16) d_Mo_back_17 tw_1410 tw_1407 tw_1409 ts_36 tw_13 dd_Mo_tell ⟨Nat.le_of_ble_eq_true rfl, Nat.le_of_ble_eq_true rfl, Nat.le_of_ble_eq_true rfl, Nat.le_of_ble_eq_true rfl⟩ (Nat.le_of_ble_eq_true rfl) rfl rfl rfl rfl ?_
    cases h
    exact zo_ret d_Mo_back_20 (Nat.le_of_ble_eq_true rfl) (Nat.le_of_ble_eq_true rfl) rfl
theorem C_Mo_back (n : Nat) (E : zE) (S : zS) (a0 : Nat) (x1 : Int32) (M : zH) (r : Int32) (M' : zH) (h : F_Mo_back n E S a0 x1 M = some (r, M')) : zC E Y_Mo_back [.ref a0, .int x1] S M (some (.int r), S, M') :=
  zC.of (Or.inl (show plainName "NightColanderModel" = true by decide)) (Nat.le_of_ble_eq_true rfl) (trivial) (K_Mo_back n E S a0 x1 M r M' h)
theorem d_Mo_is_0 : decode (yB Y_Mo_is) 0 = .ok (.iload_n 0, 1) := by decide +kernel
theorem d_Mo_is_1 : decode (yB Y_Mo_is) 1 = .ok (.iload_n 1, 1) := by decide +kernel
theorem d_Mo_is_2 : decode (yB Y_Mo_is) 2 = .ok (.ishr, 1) := by decide +kernel
theorem d_Mo_is_3 : decode (yB Y_Mo_is) 3 = .ok (.iconst 1, 1) := by decide +kernel
theorem d_Mo_is_4 : decode (yB Y_Mo_is) 4 = .ok (.iand, 1) := by decide +kernel
theorem d_Mo_is_5 : decode (yB Y_Mo_is) 5 = .ok (.iconst 1, 1) := by decide +kernel
theorem d_Mo_is_6 : decode (yB Y_Mo_is) 6 = .ok (.if_icmp .ne 7, 3) := by decide +kernel
theorem d_Mo_is_9 : decode (yB Y_Mo_is) 9 = .ok (.iconst 1, 1) := by decide +kernel
theorem d_Mo_is_10 : decode (yB Y_Mo_is) 10 = .ok (.goto 4, 3) := by decide +kernel
theorem d_Mo_is_13 : decode (yB Y_Mo_is) 13 = .ok (.iconst 0, 1) := by decide +kernel
theorem d_Mo_is_14 : decode (yB Y_Mo_is) 14 = .ok (.ireturn, 1) := by decide +kernel
def F_Mo_is (n : Nat) (E : zE) (S : zS) (x0 : Int32) (x1 : Int32) (M : zH) : Option (Bool × zH) :=
  if ((x0 >>> (x1 &&& (31 : Int32))) &&& (1 : Int32)) = 1 then
    some (true, M)
  else
    some (false, M)
theorem K_Mo_is (n : Nat) (E : zE) (S : zS) (x0 : Int32) (x1 : Int32) (M : zH) (r : Bool) (M' : zH)  (h : F_Mo_is n E S x0 x1 M = some (r, M')) : zG E Y_Mo_is (some (.int (bI r)), S, M') 0 [(0, .int x0), (1, .int x1)] [] S M 0 0 := by
  unfold F_Mo_is at h
  refine zi_iload_n 0 d_Mo_is_0 rfl ?_
  refine zi_iload_n 1 d_Mo_is_1 rfl ?_
  refine zi_ishr d_Mo_is_2 ?_
  refine zi_iconst 1 d_Mo_is_3 rfl ?_
  refine zi_iand d_Mo_is_4 ?_
  refine zi_iconst 1 d_Mo_is_5 rfl ?_
  refine zi_icmp_ne (tgt := 13) d_Mo_is_6 rfl (fun c_1 => ?_) (fun c_1 => ?_)
  · rw [if_neg c_1] at h
    refine zi_iconst 0 d_Mo_is_13 rfl ?_
    cases h
    exact zo_retB d_Mo_is_14 (Nat.le_of_ble_eq_true rfl) (Nat.le_of_ble_eq_true rfl) rfl
  · rw [if_pos c_1] at h
    refine zi_iconst 1 d_Mo_is_9 rfl ?_
    refine zi_goto (tgt := 14) d_Mo_is_10 rfl ?_
    cases h
    exact zo_retB d_Mo_is_14 (Nat.le_of_ble_eq_true rfl) (Nat.le_of_ble_eq_true rfl) rfl
theorem C_Mo_is (n : Nat) (E : zE) (S : zS) (x0 : Int32) (x1 : Int32) (M : zH) (r : Bool) (M' : zH) (h : F_Mo_is n E S x0 x1 M = some (r, M')) : zC E Y_Mo_is [.int x0, .int x1] S M (some (.int (bI r)), S, M') :=
  zC.of (Or.inl (show plainName "NightColanderModel" = true by decide)) (Nat.le_of_ble_eq_true rfl) (bI_nar r) (K_Mo_is n E S x0 x1 M r M' h)
theorem d_Mo_isField_0 : decode (yB Y_Mo_isField) 0 = .ok (.iload_n 0, 1) := by decide +kernel
theorem d_Mo_isField_1 : decode (yB Y_Mo_isField) 1 = .ok (.i2l, 1) := by decide +kernel
theorem d_Mo_isField_2 : decode (yB Y_Mo_isField) 2 = .ok (.lconst 0, 1) := by decide +kernel
theorem d_Mo_isField_3 : decode (yB Y_Mo_isField) 3 = .ok (.ldc2_w 185, 3) := by decide +kernel
theorem d_Mo_isField_6 : decode (yB Y_Mo_isField) 6 = .ok (.invokestatic 176, 3) := by decide +kernel
theorem d_Mo_isField_9 : decode (yB Y_Mo_isField) 9 = .ok (.ireturn, 1) := by decide +kernel
def F_Mo_isField (n : Nat) (E : zE) (S : zS) (x0 : Int32) (M : zH) : Option (Bool × zH) :=
  (F_Mo_in n E S x0.toInt64 0 7 M).bind fun q_1 =>
  some (q_1.1, q_1.2)
theorem K_Mo_isField (n : Nat) (E : zE) (S : zS) (x0 : Int32) (M : zH) (r : Bool) (M' : zH)  (h : F_Mo_isField n E S x0 M = some (r, M')) : zG E Y_Mo_isField (some (.int (bI r)), S, M') 0 [(0, .int x0)] [] S M 0 0 := by
  unfold F_Mo_isField at h
  refine zi_iload_n 0 d_Mo_isField_0 rfl ?_
  refine zi_i2l d_Mo_isField_1 ?_
  refine zi_lconst 0 d_Mo_isField_2 rfl ?_
  refine zi_ldc2 d_Mo_isField_3 tw_1441 ?_
  obtain ⟨q_1, eq_1, h⟩ := zbind h
  refine zo_stat (k' := 0) (n' := 0) 9 [.long x0.toInt64, .long 0, .long 7] [] [.int (bI q_1.1)] (C_Mo_in n E S x0.toInt64 0 7 M q_1.1 q_1.2 eq_1) d_Mo_isField_6 tw_1421 tw_1419 tw_1420 tw_13 dd_Mo_in ⟨Nat.le_of_ble_eq_true rfl, Nat.le_of_ble_eq_true rfl, Nat.le_of_ble_eq_true rfl, Nat.le_of_ble_eq_true rfl⟩ (Nat.le_of_ble_eq_true rfl) rfl rfl rfl rfl ?_
  cases h
  exact zo_retB d_Mo_isField_9 (Nat.le_of_ble_eq_true rfl) (Nat.le_of_ble_eq_true rfl) rfl
theorem C_Mo_isField (n : Nat) (E : zE) (S : zS) (x0 : Int32) (M : zH) (r : Bool) (M' : zH) (h : F_Mo_isField n E S x0 M = some (r, M')) : zC E Y_Mo_isField [.int x0] S M (some (.int (bI r)), S, M') :=
  zC.of (Or.inl (show plainName "NightColanderModel" = true by decide)) (Nat.le_of_ble_eq_true rfl) (bI_nar r) (K_Mo_isField n E S x0 M r M' h)
theorem d_Mo_isRing_0 : decode (yB Y_Mo_isRing) 0 = .ok (.iload_n 0, 1) := by decide +kernel
theorem d_Mo_isRing_1 : decode (yB Y_Mo_isRing) 1 = .ok (.i2l, 1) := by decide +kernel
theorem d_Mo_isRing_2 : decode (yB Y_Mo_isRing) 2 = .ok (.lconst 0, 1) := by decide +kernel
theorem d_Mo_isRing_3 : decode (yB Y_Mo_isRing) 3 = .ok (.ldc2_w 183, 3) := by decide +kernel
theorem d_Mo_isRing_6 : decode (yB Y_Mo_isRing) 6 = .ok (.invokestatic 176, 3) := by decide +kernel
theorem d_Mo_isRing_9 : decode (yB Y_Mo_isRing) 9 = .ok (.ireturn, 1) := by decide +kernel
def F_Mo_isRing (n : Nat) (E : zE) (S : zS) (x0 : Int32) (M : zH) : Option (Bool × zH) :=
  (F_Mo_in n E S x0.toInt64 0 3 M).bind fun q_1 =>
  some (q_1.1, q_1.2)
theorem K_Mo_isRing (n : Nat) (E : zE) (S : zS) (x0 : Int32) (M : zH) (r : Bool) (M' : zH)  (h : F_Mo_isRing n E S x0 M = some (r, M')) : zG E Y_Mo_isRing (some (.int (bI r)), S, M') 0 [(0, .int x0)] [] S M 0 0 := by
  unfold F_Mo_isRing at h
  refine zi_iload_n 0 d_Mo_isRing_0 rfl ?_
  refine zi_i2l d_Mo_isRing_1 ?_
  refine zi_lconst 0 d_Mo_isRing_2 rfl ?_
  refine zi_ldc2 d_Mo_isRing_3 tw_1437 ?_
  obtain ⟨q_1, eq_1, h⟩ := zbind h
  refine zo_stat (k' := 0) (n' := 0) 9 [.long x0.toInt64, .long 0, .long 3] [] [.int (bI q_1.1)] (C_Mo_in n E S x0.toInt64 0 3 M q_1.1 q_1.2 eq_1) d_Mo_isRing_6 tw_1421 tw_1419 tw_1420 tw_13 dd_Mo_in ⟨Nat.le_of_ble_eq_true rfl, Nat.le_of_ble_eq_true rfl, Nat.le_of_ble_eq_true rfl, Nat.le_of_ble_eq_true rfl⟩ (Nat.le_of_ble_eq_true rfl) rfl rfl rfl rfl ?_
  cases h
  exact zo_retB d_Mo_isRing_9 (Nat.le_of_ble_eq_true rfl) (Nat.le_of_ble_eq_true rfl) rfl
theorem C_Mo_isRing (n : Nat) (E : zE) (S : zS) (x0 : Int32) (M : zH) (r : Bool) (M' : zH) (h : F_Mo_isRing n E S x0 M = some (r, M')) : zC E Y_Mo_isRing [.int x0] S M (some (.int (bI r)), S, M') :=
  zC.of (Or.inl (show plainName "NightColanderModel" = true by decide)) (Nat.le_of_ble_eq_true rfl) (bI_nar r) (K_Mo_isRing n E S x0 M r M' h)
theorem d_Mo_isBucket_0 : decode (yB Y_Mo_isBucket) 0 = .ok (.iload_n 1, 1) := by decide +kernel
theorem d_Mo_isBucket_1 : decode (yB Y_Mo_isBucket) 1 = .ok (.i2l, 1) := by decide +kernel
theorem d_Mo_isBucket_2 : decode (yB Y_Mo_isBucket) 2 = .ok (.lconst 0, 1) := by decide +kernel
theorem d_Mo_isBucket_3 : decode (yB Y_Mo_isBucket) 3 = .ok (.aload_n 0, 1) := by decide +kernel
theorem d_Mo_isBucket_4 : decode (yB Y_Mo_isBucket) 4 = .ok (.getfield 13, 3) := by decide +kernel
theorem d_Mo_isBucket_7 : decode (yB Y_Mo_isBucket) 7 = .ok (.iconst 0, 1) := by decide +kernel
theorem d_Mo_isBucket_8 : decode (yB Y_Mo_isBucket) 8 = .ok (.iaload, 1) := by decide +kernel
theorem d_Mo_isBucket_9 : decode (yB Y_Mo_isBucket) 9 = .ok (.i2l, 1) := by decide +kernel
theorem d_Mo_isBucket_10 : decode (yB Y_Mo_isBucket) 10 = .ok (.lconst 1, 1) := by decide +kernel
theorem d_Mo_isBucket_11 : decode (yB Y_Mo_isBucket) 11 = .ok (.lsub, 1) := by decide +kernel
theorem d_Mo_isBucket_12 : decode (yB Y_Mo_isBucket) 12 = .ok (.invokestatic 176, 3) := by decide +kernel
theorem d_Mo_isBucket_15 : decode (yB Y_Mo_isBucket) 15 = .ok (.ireturn, 1) := by decide +kernel
def F_Mo_isBucket (n : Nat) (E : zE) (S : zS) (a0 : Nat) (x1 : Int32) (M : zH) : Option (Bool × zH) :=
  (zgR S a0 11 3).bind fun b_1 =>
  (zldI S M b_1 0).bind fun v_2 =>
  (F_Mo_in n E S x1.toInt64 0 (v_2.toInt64 - 1) M).bind fun q_3 =>
  some (q_3.1, q_3.2)
theorem K_Mo_isBucket (n : Nat) (E : zE) (S : zS) (a0 : Nat) (x1 : Int32) (M : zH) (r : Bool) (M' : zH)  (h : F_Mo_isBucket n E S a0 x1 M = some (r, M')) : zG E Y_Mo_isBucket (some (.int (bI r)), S, M') 0 [(0, .ref a0), (1, .int x1)] [] S M 0 0 := by
  unfold F_Mo_isBucket at h
  refine zi_iload_n 1 d_Mo_isBucket_0 rfl ?_
  refine zi_i2l d_Mo_isBucket_1 ?_
  refine zi_lconst 0 d_Mo_isBucket_2 rfl ?_
  refine zi_aload_n 0 d_Mo_isBucket_3 rfl ?_
  obtain ⟨b_1, eb_1, h⟩ := zbind h
  refine zo_getR 7 zkd_11 3 d_Mo_isBucket_4 eb_1 rfl tw_1234 rfl ?_
  refine zi_iconst 0 d_Mo_isBucket_7 rfl ?_
  obtain ⟨v_2, ev_2, h⟩ := zbind h
  refine zo_iald 9 d_Mo_isBucket_8 ev_2 rfl ?_
  refine zi_i2l d_Mo_isBucket_9 ?_
  refine zi_lconst 1 d_Mo_isBucket_10 rfl ?_
  refine zi_lsub d_Mo_isBucket_11 ?_
  obtain ⟨q_3, eq_3, h⟩ := zbind h
  refine zo_stat (k' := 0) (n' := 0) 15 [.long x1.toInt64, .long 0, .long (v_2.toInt64 - 1)] [] [.int (bI q_3.1)] (C_Mo_in n E S x1.toInt64 0 (v_2.toInt64 - 1) M q_3.1 q_3.2 eq_3) d_Mo_isBucket_12 tw_1421 tw_1419 tw_1420 tw_13 dd_Mo_in ⟨Nat.le_of_ble_eq_true rfl, Nat.le_of_ble_eq_true rfl, Nat.le_of_ble_eq_true rfl, Nat.le_of_ble_eq_true rfl⟩ (Nat.le_of_ble_eq_true rfl) rfl rfl rfl rfl ?_
  cases h
  exact zo_retB d_Mo_isBucket_15 (Nat.le_of_ble_eq_true rfl) (Nat.le_of_ble_eq_true rfl) rfl
theorem C_Mo_isBucket (n : Nat) (E : zE) (S : zS) (a0 : Nat) (x1 : Int32) (M : zH) (r : Bool) (M' : zH) (h : F_Mo_isBucket n E S a0 x1 M = some (r, M')) : zC E Y_Mo_isBucket [.ref a0, .int x1] S M (some (.int (bI r)), S, M') :=
  zC.of (Or.inl (show plainName "NightColanderModel" = true by decide)) (Nat.le_of_ble_eq_true rfl) (bI_nar r) (K_Mo_isBucket n E S a0 x1 M r M' h)
theorem d_Mo_reckon_0 : decode (yB Y_Mo_reckon) 0 = .ok (.iload_n 1, 1) := by decide +kernel
theorem d_Mo_reckon_1 : decode (yB Y_Mo_reckon) 1 = .ok (.tableswitch 148 20 26 #[43, 48, 53, 58, 90, 122, 135], 43) := by decide +kernel
theorem d_Mo_reckon_44 : decode (yB Y_Mo_reckon) 44 = .ok (.lload_n 2, 1) := by decide +kernel
theorem d_Mo_reckon_45 : decode (yB Y_Mo_reckon) 45 = .ok (.lload 4, 2) := by decide +kernel
theorem d_Mo_reckon_47 : decode (yB Y_Mo_reckon) 47 = .ok (.ladd, 1) := by decide +kernel
theorem d_Mo_reckon_48 : decode (yB Y_Mo_reckon) 48 = .ok (.lreturn, 1) := by decide +kernel
theorem d_Mo_reckon_49 : decode (yB Y_Mo_reckon) 49 = .ok (.lload_n 2, 1) := by decide +kernel
theorem d_Mo_reckon_50 : decode (yB Y_Mo_reckon) 50 = .ok (.lload 4, 2) := by decide +kernel
theorem d_Mo_reckon_52 : decode (yB Y_Mo_reckon) 52 = .ok (.lsub, 1) := by decide +kernel
theorem d_Mo_reckon_53 : decode (yB Y_Mo_reckon) 53 = .ok (.lreturn, 1) := by decide +kernel
theorem d_Mo_reckon_54 : decode (yB Y_Mo_reckon) 54 = .ok (.lload_n 2, 1) := by decide +kernel
theorem d_Mo_reckon_55 : decode (yB Y_Mo_reckon) 55 = .ok (.lload 4, 2) := by decide +kernel
theorem d_Mo_reckon_57 : decode (yB Y_Mo_reckon) 57 = .ok (.lmul, 1) := by decide +kernel
theorem d_Mo_reckon_58 : decode (yB Y_Mo_reckon) 58 = .ok (.lreturn, 1) := by decide +kernel
theorem d_Mo_reckon_59 : decode (yB Y_Mo_reckon) 59 = .ok (.aload_n 0, 1) := by decide +kernel
theorem d_Mo_reckon_60 : decode (yB Y_Mo_reckon) 60 = .ok (.lload 4, 2) := by decide +kernel
theorem d_Mo_reckon_62 : decode (yB Y_Mo_reckon) 62 = .ok (.lconst 0, 1) := by decide +kernel
theorem d_Mo_reckon_63 : decode (yB Y_Mo_reckon) 63 = .ok (.lcmp, 1) := by decide +kernel
theorem d_Mo_reckon_64 : decode (yB Y_Mo_reckon) 64 = .ok (.ifCond .ne 7, 3) := by decide +kernel
theorem d_Mo_reckon_67 : decode (yB Y_Mo_reckon) 67 = .ok (.iconst 1, 1) := by decide +kernel
theorem d_Mo_reckon_68 : decode (yB Y_Mo_reckon) 68 = .ok (.goto 4, 3) := by decide +kernel
theorem d_Mo_reckon_71 : decode (yB Y_Mo_reckon) 71 = .ok (.iconst 0, 1) := by decide +kernel
theorem d_Mo_reckon_72 : decode (yB Y_Mo_reckon) 72 = .ok (.putfield 405, 3) := by decide +kernel
theorem d_Mo_reckon_75 : decode (yB Y_Mo_reckon) 75 = .ok (.aload_n 0, 1) := by decide +kernel
theorem d_Mo_reckon_76 : decode (yB Y_Mo_reckon) 76 = .ok (.getfield 405, 3) := by decide +kernel
theorem d_Mo_reckon_79 : decode (yB Y_Mo_reckon) 79 = .ok (.ifCond .eq 7, 3) := by decide +kernel
theorem d_Mo_reckon_82 : decode (yB Y_Mo_reckon) 82 = .ok (.lconst 0, 1) := by decide +kernel
theorem d_Mo_reckon_83 : decode (yB Y_Mo_reckon) 83 = .ok (.goto 7, 3) := by decide +kernel
theorem d_Mo_reckon_86 : decode (yB Y_Mo_reckon) 86 = .ok (.lload_n 2, 1) := by decide +kernel
theorem d_Mo_reckon_87 : decode (yB Y_Mo_reckon) 87 = .ok (.lload 4, 2) := by decide +kernel
theorem d_Mo_reckon_89 : decode (yB Y_Mo_reckon) 89 = .ok (.ldiv, 1) := by decide +kernel
theorem d_Mo_reckon_90 : decode (yB Y_Mo_reckon) 90 = .ok (.lreturn, 1) := by decide +kernel
theorem d_Mo_reckon_91 : decode (yB Y_Mo_reckon) 91 = .ok (.aload_n 0, 1) := by decide +kernel
theorem d_Mo_reckon_92 : decode (yB Y_Mo_reckon) 92 = .ok (.lload 4, 2) := by decide +kernel
theorem d_Mo_reckon_94 : decode (yB Y_Mo_reckon) 94 = .ok (.lconst 0, 1) := by decide +kernel
theorem d_Mo_reckon_95 : decode (yB Y_Mo_reckon) 95 = .ok (.lcmp, 1) := by decide +kernel
theorem d_Mo_reckon_96 : decode (yB Y_Mo_reckon) 96 = .ok (.ifCond .ne 7, 3) := by decide +kernel
theorem d_Mo_reckon_99 : decode (yB Y_Mo_reckon) 99 = .ok (.iconst 1, 1) := by decide +kernel
theorem d_Mo_reckon_100 : decode (yB Y_Mo_reckon) 100 = .ok (.goto 4, 3) := by decide +kernel
theorem d_Mo_reckon_103 : decode (yB Y_Mo_reckon) 103 = .ok (.iconst 0, 1) := by decide +kernel
theorem d_Mo_reckon_104 : decode (yB Y_Mo_reckon) 104 = .ok (.putfield 405, 3) := by decide +kernel
theorem d_Mo_reckon_107 : decode (yB Y_Mo_reckon) 107 = .ok (.aload_n 0, 1) := by decide +kernel
theorem d_Mo_reckon_108 : decode (yB Y_Mo_reckon) 108 = .ok (.getfield 405, 3) := by decide +kernel
theorem d_Mo_reckon_111 : decode (yB Y_Mo_reckon) 111 = .ok (.ifCond .eq 7, 3) := by decide +kernel
theorem d_Mo_reckon_114 : decode (yB Y_Mo_reckon) 114 = .ok (.lconst 0, 1) := by decide +kernel
theorem d_Mo_reckon_115 : decode (yB Y_Mo_reckon) 115 = .ok (.goto 7, 3) := by decide +kernel
theorem d_Mo_reckon_118 : decode (yB Y_Mo_reckon) 118 = .ok (.lload_n 2, 1) := by decide +kernel
theorem d_Mo_reckon_119 : decode (yB Y_Mo_reckon) 119 = .ok (.lload 4, 2) := by decide +kernel
theorem d_Mo_reckon_121 : decode (yB Y_Mo_reckon) 121 = .ok (.lrem, 1) := by decide +kernel
theorem d_Mo_reckon_122 : decode (yB Y_Mo_reckon) 122 = .ok (.lreturn, 1) := by decide +kernel
theorem d_Mo_reckon_123 : decode (yB Y_Mo_reckon) 123 = .ok (.lload_n 2, 1) := by decide +kernel
theorem d_Mo_reckon_124 : decode (yB Y_Mo_reckon) 124 = .ok (.lload 4, 2) := by decide +kernel
theorem d_Mo_reckon_126 : decode (yB Y_Mo_reckon) 126 = .ok (.lcmp, 1) := by decide +kernel
theorem d_Mo_reckon_127 : decode (yB Y_Mo_reckon) 127 = .ok (.ifCond .ge 7, 3) := by decide +kernel
theorem d_Mo_reckon_130 : decode (yB Y_Mo_reckon) 130 = .ok (.lconst 1, 1) := by decide +kernel
theorem d_Mo_reckon_131 : decode (yB Y_Mo_reckon) 131 = .ok (.goto 4, 3) := by decide +kernel
theorem d_Mo_reckon_134 : decode (yB Y_Mo_reckon) 134 = .ok (.lconst 0, 1) := by decide +kernel
theorem d_Mo_reckon_135 : decode (yB Y_Mo_reckon) 135 = .ok (.lreturn, 1) := by decide +kernel
theorem d_Mo_reckon_136 : decode (yB Y_Mo_reckon) 136 = .ok (.lload_n 2, 1) := by decide +kernel
theorem d_Mo_reckon_137 : decode (yB Y_Mo_reckon) 137 = .ok (.lload 4, 2) := by decide +kernel
theorem d_Mo_reckon_139 : decode (yB Y_Mo_reckon) 139 = .ok (.lcmp, 1) := by decide +kernel
theorem d_Mo_reckon_140 : decode (yB Y_Mo_reckon) 140 = .ok (.ifCond .le 7, 3) := by decide +kernel
theorem d_Mo_reckon_143 : decode (yB Y_Mo_reckon) 143 = .ok (.lconst 1, 1) := by decide +kernel
theorem d_Mo_reckon_144 : decode (yB Y_Mo_reckon) 144 = .ok (.goto 4, 3) := by decide +kernel
theorem d_Mo_reckon_147 : decode (yB Y_Mo_reckon) 147 = .ok (.lconst 0, 1) := by decide +kernel
theorem d_Mo_reckon_148 : decode (yB Y_Mo_reckon) 148 = .ok (.lreturn, 1) := by decide +kernel
theorem d_Mo_reckon_149 : decode (yB Y_Mo_reckon) 149 = .ok (.lload_n 2, 1) := by decide +kernel
theorem d_Mo_reckon_150 : decode (yB Y_Mo_reckon) 150 = .ok (.lload 4, 2) := by decide +kernel
theorem d_Mo_reckon_152 : decode (yB Y_Mo_reckon) 152 = .ok (.lcmp, 1) := by decide +kernel
theorem d_Mo_reckon_153 : decode (yB Y_Mo_reckon) 153 = .ok (.ifCond .ne 7, 3) := by decide +kernel
theorem d_Mo_reckon_156 : decode (yB Y_Mo_reckon) 156 = .ok (.lconst 1, 1) := by decide +kernel
theorem d_Mo_reckon_157 : decode (yB Y_Mo_reckon) 157 = .ok (.goto 4, 3) := by decide +kernel
theorem d_Mo_reckon_160 : decode (yB Y_Mo_reckon) 160 = .ok (.lconst 0, 1) := by decide +kernel
theorem d_Mo_reckon_161 : decode (yB Y_Mo_reckon) 161 = .ok (.lreturn, 1) := by decide +kernel
def F_Mo_reckon_b72 (n : Nat) (E : zE) (S : zS) (a0 : Nat) (y2 : Int64) (y4 : Int64) (s0 : Int32) (u1 : Nat) (M : zH) : Option (Int64 × zH) :=
  (zpZ S M u1 11 38 s0).bind fun m_1 =>
  (zgI S m_1 a0 11 38).bind fun v_2 =>
  if v_2 = 0 then
    (zdivJ y2 y4).bind fun v_4 =>
    some (v_4, m_1)
  else
    some (0, m_1)
def F_Mo_reckon_b104 (n : Nat) (E : zE) (S : zS) (a0 : Nat) (y2 : Int64) (y4 : Int64) (s0 : Int32) (u1 : Nat) (M : zH) : Option (Int64 × zH) :=
  (zpZ S M u1 11 38 s0).bind fun m_5 =>
  (zgI S m_5 a0 11 38).bind fun v_6 =>
  if v_6 = 0 then
    (zremJ y2 y4).bind fun v_8 =>
    some (v_8, m_5)
  else
    some (0, m_5)
def F_Mo_reckon (n : Nat) (E : zE) (S : zS) (a0 : Nat) (x1 : Int32) (y2 : Int64) (y4 : Int64) (M : zH) : Option (Int64 × zH) :=
  if x1 = 20 then
    some (y2 + y4, M)
  else
  if x1 = 21 then
    some (y2 - y4, M)
  else
  if x1 = 22 then
    some (y2 * y4, M)
  else
  if x1 = 23 then
    if y4 = 0 then
      F_Mo_reckon_b72 n E S a0 y2 y4 1 a0 M
    else
      F_Mo_reckon_b72 n E S a0 y2 y4 0 a0 M
  else
  if x1 = 24 then
    if y4 = 0 then
      F_Mo_reckon_b104 n E S a0 y2 y4 1 a0 M
    else
      F_Mo_reckon_b104 n E S a0 y2 y4 0 a0 M
  else
  if x1 = 25 then
    if y4 ≤ y2 then
      some (0, M)
    else
      some (1, M)
  else
  if x1 = 26 then
    if y2 ≤ y4 then
      some (0, M)
    else
      some (1, M)
  else
    if y2 = y4 then
      some (1, M)
    else
      some (0, M)
theorem K_Mo_reckon_b72 (n : Nat) (E : zE) (S : zS) (a0 : Nat) (y2 : Int64) (y4 : Int64) (s0 : Int32) (u1 : Nat) (M : zH) (r : Int64) (M' : zH)  (h : F_Mo_reckon_b72 n E S a0 y2 y4 s0 u1 M = some (r, M')) : zG E Y_Mo_reckon (some (.long r), S, M') 72 [(0, .ref a0), (2, .long y2), (4, .long y4)] [.int s0, .ref u1] S M 0 0 := by
  unfold F_Mo_reckon_b72 at h
  obtain ⟨m_1, em_1, h⟩ := zbind h
  refine zo_putZ 75 zkd_11 38 d_Mo_reckon_72 em_1 rfl rfl rfl tw_1269 rfl ?_
  refine zi_aload_n 0 d_Mo_reckon_75 rfl ?_
  obtain ⟨v_2, ev_2, h⟩ := zbind h
  refine zo_getI 79 zkd_11 38 d_Mo_reckon_76 ev_2 rfl tw_1269 rfl ?_
  refine zi_if_eq (tgt := 86) d_Mo_reckon_79 rfl (fun c_3 => ?_) (fun c_3 => ?_)
  · rw [if_pos c_3] at h
    refine zi_lload_n 1 d_Mo_reckon_86 rfl ?_
    refine zi_lload 2 d_Mo_reckon_87 rfl ?_
    obtain ⟨v_4, ev_4, h⟩ := zbind h
    refine zo_ldiv 90 d_Mo_reckon_89 ev_4 rfl ?_
    cases h
    exact zo_ret d_Mo_reckon_90 (Nat.le_of_ble_eq_true rfl) (Nat.le_of_ble_eq_true rfl) rfl
  · rw [if_neg c_3] at h
    refine zi_lconst 0 d_Mo_reckon_82 rfl ?_
    refine zi_goto (tgt := 90) d_Mo_reckon_83 rfl ?_
    cases h
    exact zo_ret d_Mo_reckon_90 (Nat.le_of_ble_eq_true rfl) (Nat.le_of_ble_eq_true rfl) rfl
theorem K_Mo_reckon_b104 (n : Nat) (E : zE) (S : zS) (a0 : Nat) (y2 : Int64) (y4 : Int64) (s0 : Int32) (u1 : Nat) (M : zH) (r : Int64) (M' : zH)  (h : F_Mo_reckon_b104 n E S a0 y2 y4 s0 u1 M = some (r, M')) : zG E Y_Mo_reckon (some (.long r), S, M') 104 [(0, .ref a0), (2, .long y2), (4, .long y4)] [.int s0, .ref u1] S M 0 0 := by
  unfold F_Mo_reckon_b104 at h
  obtain ⟨m_5, em_5, h⟩ := zbind h
  refine zo_putZ 107 zkd_11 38 d_Mo_reckon_104 em_5 rfl rfl rfl tw_1269 rfl ?_
  refine zi_aload_n 0 d_Mo_reckon_107 rfl ?_
  obtain ⟨v_6, ev_6, h⟩ := zbind h
  refine zo_getI 111 zkd_11 38 d_Mo_reckon_108 ev_6 rfl tw_1269 rfl ?_
  refine zi_if_eq (tgt := 118) d_Mo_reckon_111 rfl (fun c_7 => ?_) (fun c_7 => ?_)
  · rw [if_pos c_7] at h
    refine zi_lload_n 1 d_Mo_reckon_118 rfl ?_
    refine zi_lload 2 d_Mo_reckon_119 rfl ?_
    obtain ⟨v_8, ev_8, h⟩ := zbind h
    refine zo_lrem 122 d_Mo_reckon_121 ev_8 rfl ?_
    cases h
    exact zo_ret d_Mo_reckon_122 (Nat.le_of_ble_eq_true rfl) (Nat.le_of_ble_eq_true rfl) rfl
  · rw [if_neg c_7] at h
    refine zi_lconst 0 d_Mo_reckon_114 rfl ?_
    refine zi_goto (tgt := 122) d_Mo_reckon_115 rfl ?_
    cases h
    exact zo_ret d_Mo_reckon_122 (Nat.le_of_ble_eq_true rfl) (Nat.le_of_ble_eq_true rfl) rfl
theorem K_Mo_reckon (n : Nat) (E : zE) (S : zS) (a0 : Nat) (x1 : Int32) (y2 : Int64) (y4 : Int64) (M : zH) (r : Int64) (M' : zH)  (h : F_Mo_reckon n E S a0 x1 y2 y4 M = some (r, M')) : zG E Y_Mo_reckon (some (.long r), S, M') 0 [(0, .ref a0), (1, .int x1), (2, .long y2), (4, .long y4)] [] S M 0 0 := by
  unfold F_Mo_reckon at h
  refine zi_iload_n 1 d_Mo_reckon_0 rfl ?_
  by_cases c_9 : x1 = 20
  · rw [if_pos c_9] at h
    refine zo_tab (tgt := 44) 20 d_Mo_reckon_1 c_9 (by decide) (by decide) rfl rfl ?_
    refine zi_lload_n 2 d_Mo_reckon_44 rfl ?_
    refine zi_lload 3 d_Mo_reckon_45 rfl ?_
    refine zi_ladd d_Mo_reckon_47 ?_
    cases h
    exact zo_ret d_Mo_reckon_48 (Nat.le_of_ble_eq_true rfl) (Nat.le_of_ble_eq_true rfl) rfl
  rw [if_neg c_9] at h
  by_cases c_10 : x1 = 21
  · rw [if_pos c_10] at h
    refine zo_tab (tgt := 49) 21 d_Mo_reckon_1 c_10 (by decide) (by decide) rfl rfl ?_
    refine zi_lload_n 2 d_Mo_reckon_49 rfl ?_
    refine zi_lload 3 d_Mo_reckon_50 rfl ?_
    refine zi_lsub d_Mo_reckon_52 ?_
    cases h
    exact zo_ret d_Mo_reckon_53 (Nat.le_of_ble_eq_true rfl) (Nat.le_of_ble_eq_true rfl) rfl
  rw [if_neg c_10] at h
  by_cases c_11 : x1 = 22
  · rw [if_pos c_11] at h
    refine zo_tab (tgt := 54) 22 d_Mo_reckon_1 c_11 (by decide) (by decide) rfl rfl ?_
    refine zi_lload_n 2 d_Mo_reckon_54 rfl ?_
    refine zi_lload 3 d_Mo_reckon_55 rfl ?_
    refine zi_lmul d_Mo_reckon_57 ?_
    cases h
    exact zo_ret d_Mo_reckon_58 (Nat.le_of_ble_eq_true rfl) (Nat.le_of_ble_eq_true rfl) rfl
  rw [if_neg c_11] at h
  by_cases c_12 : x1 = 23
  · rw [if_pos c_12] at h
    refine zo_tab (tgt := 59) 23 d_Mo_reckon_1 c_12 (by decide) (by decide) rfl rfl ?_
    refine zi_aload_n 0 d_Mo_reckon_59 rfl ?_
    refine zi_lload 3 d_Mo_reckon_60 rfl ?_
    refine zi_lconst 0 d_Mo_reckon_62 rfl ?_
    refine zo_lc_ne d_Mo_reckon_63 d_Mo_reckon_64 rfl 67 rfl (fun c_13 => ?_) (fun c_13 => ?_)
    · rw [if_neg c_13] at h
      refine zi_iconst 0 d_Mo_reckon_71 rfl ?_
      refine zi_lo [(0, .ref a0), (2, .long y2), (4, .long y4)] [0, 2, 3] rfl ?_
      exact K_Mo_reckon_b72 n E S a0 y2 y4 0 a0 M r M'  h
    · rw [if_pos c_13] at h
      refine zi_iconst 1 d_Mo_reckon_67 rfl ?_
      refine zi_goto (tgt := 72) d_Mo_reckon_68 rfl ?_
      refine zi_lo [(0, .ref a0), (2, .long y2), (4, .long y4)] [0, 2, 3] rfl ?_
      exact K_Mo_reckon_b72 n E S a0 y2 y4 1 a0 M r M'  h
  rw [if_neg c_12] at h
  by_cases c_14 : x1 = 24
  · rw [if_pos c_14] at h
    refine zo_tab (tgt := 91) 24 d_Mo_reckon_1 c_14 (by decide) (by decide) rfl rfl ?_
    refine zi_aload_n 0 d_Mo_reckon_91 rfl ?_
    refine zi_lload 3 d_Mo_reckon_92 rfl ?_
    refine zi_lconst 0 d_Mo_reckon_94 rfl ?_
    refine zo_lc_ne d_Mo_reckon_95 d_Mo_reckon_96 rfl 99 rfl (fun c_15 => ?_) (fun c_15 => ?_)
    · rw [if_neg c_15] at h
      refine zi_iconst 0 d_Mo_reckon_103 rfl ?_
      refine zi_lo [(0, .ref a0), (2, .long y2), (4, .long y4)] [0, 2, 3] rfl ?_
      exact K_Mo_reckon_b104 n E S a0 y2 y4 0 a0 M r M'  h
    · rw [if_pos c_15] at h
      refine zi_iconst 1 d_Mo_reckon_99 rfl ?_
      refine zi_goto (tgt := 104) d_Mo_reckon_100 rfl ?_
      refine zi_lo [(0, .ref a0), (2, .long y2), (4, .long y4)] [0, 2, 3] rfl ?_
      exact K_Mo_reckon_b104 n E S a0 y2 y4 1 a0 M r M'  h
  rw [if_neg c_14] at h
  by_cases c_16 : x1 = 25
  · rw [if_pos c_16] at h
    refine zo_tab (tgt := 123) 25 d_Mo_reckon_1 c_16 (by decide) (by decide) rfl rfl ?_
    refine zi_lload_n 2 d_Mo_reckon_123 rfl ?_
    refine zi_lload 3 d_Mo_reckon_124 rfl ?_
    refine zo_lc_ge d_Mo_reckon_126 d_Mo_reckon_127 rfl 130 rfl (fun c_17 => ?_) (fun c_17 => ?_)
    · rw [if_pos c_17] at h
      refine zi_lconst 0 d_Mo_reckon_134 rfl ?_
      cases h
      exact zo_ret d_Mo_reckon_135 (Nat.le_of_ble_eq_true rfl) (Nat.le_of_ble_eq_true rfl) rfl
    · rw [if_neg c_17] at h
      refine zi_lconst 1 d_Mo_reckon_130 rfl ?_
      refine zi_goto (tgt := 135) d_Mo_reckon_131 rfl ?_
      cases h
      exact zo_ret d_Mo_reckon_135 (Nat.le_of_ble_eq_true rfl) (Nat.le_of_ble_eq_true rfl) rfl
  rw [if_neg c_16] at h
  by_cases c_18 : x1 = 26
  · rw [if_pos c_18] at h
    refine zo_tab (tgt := 136) 26 d_Mo_reckon_1 c_18 (by decide) (by decide) rfl rfl ?_
    refine zi_lload_n 2 d_Mo_reckon_136 rfl ?_
    refine zi_lload 3 d_Mo_reckon_137 rfl ?_
    refine zo_lc_le d_Mo_reckon_139 d_Mo_reckon_140 rfl 143 rfl (fun c_19 => ?_) (fun c_19 => ?_)
    · rw [if_pos c_19] at h
      refine zi_lconst 0 d_Mo_reckon_147 rfl ?_
      cases h
      exact zo_ret d_Mo_reckon_148 (Nat.le_of_ble_eq_true rfl) (Nat.le_of_ble_eq_true rfl) rfl
    · rw [if_neg c_19] at h
      refine zi_lconst 1 d_Mo_reckon_143 rfl ?_
      refine zi_goto (tgt := 148) d_Mo_reckon_144 rfl ?_
      cases h
      exact zo_ret d_Mo_reckon_148 (Nat.le_of_ble_eq_true rfl) (Nat.le_of_ble_eq_true rfl) rfl
  rw [if_neg c_18] at h
  refine zo_tabP (tgt := 149) 20 7 d_Mo_reckon_1 rfl rfl (fun j hj => by match j, hj with | 0, _ => exact c_9  | 1, _ => exact c_10  | 2, _ => exact c_11  | 3, _ => exact c_12  | 4, _ => exact c_14  | 5, _ => exact c_16  | 6, _ => exact c_18 | j + 7, hj => exact absurd hj (by omega)) rfl ?_
  refine zi_lload_n 2 d_Mo_reckon_149 rfl ?_
  refine zi_lload 3 d_Mo_reckon_150 rfl ?_
  refine zo_lc_ne d_Mo_reckon_152 d_Mo_reckon_153 rfl 156 rfl (fun c_20 => ?_) (fun c_20 => ?_)
  · rw [if_neg c_20] at h
    refine zi_lconst 0 d_Mo_reckon_160 rfl ?_
    cases h
    exact zo_ret d_Mo_reckon_161 (Nat.le_of_ble_eq_true rfl) (Nat.le_of_ble_eq_true rfl) rfl
  · rw [if_pos c_20] at h
    refine zi_lconst 1 d_Mo_reckon_156 rfl ?_
    refine zi_goto (tgt := 161) d_Mo_reckon_157 rfl ?_
    cases h
    exact zo_ret d_Mo_reckon_161 (Nat.le_of_ble_eq_true rfl) (Nat.le_of_ble_eq_true rfl) rfl
theorem C_Mo_reckon (n : Nat) (E : zE) (S : zS) (a0 : Nat) (x1 : Int32) (y2 : Int64) (y4 : Int64) (M : zH) (r : Int64) (M' : zH) (h : F_Mo_reckon n E S a0 x1 y2 y4 M = some (r, M')) : zC E Y_Mo_reckon [.ref a0, .int x1, .long y2, .long y4] S M (some (.long r), S, M') :=
  zC.of (Or.inl (show plainName "NightColanderModel" = true by decide)) (Nat.le_of_ble_eq_true rfl) (trivial) (K_Mo_reckon n E S a0 x1 y2 y4 M r M' h)
theorem d_Mo_reckonAll_0 : decode (yB Y_Mo_reckonAll) 0 = .ok (.aload_n 0, 1) := by decide +kernel
theorem d_Mo_reckonAll_1 : decode (yB Y_Mo_reckonAll) 1 = .ok (.iconst 0, 1) := by decide +kernel
theorem d_Mo_reckonAll_2 : decode (yB Y_Mo_reckonAll) 2 = .ok (.putfield 405, 3) := by decide +kernel
theorem d_Mo_reckonAll_5 : decode (yB Y_Mo_reckonAll) 5 = .ok (.iconst 0, 1) := by decide +kernel
theorem d_Mo_reckonAll_6 : decode (yB Y_Mo_reckonAll) 6 = .ok (.istore_n 3, 1) := by decide +kernel
theorem d_Mo_reckonAll_7 : decode (yB Y_Mo_reckonAll) 7 = .ok (.iload_n 1, 1) := by decide +kernel
theorem d_Mo_reckonAll_8 : decode (yB Y_Mo_reckonAll) 8 = .ok (.istore 4, 2) := by decide +kernel
theorem d_Mo_reckonAll_10 : decode (yB Y_Mo_reckonAll) 10 = .ok (.iload 4, 2) := by decide +kernel
theorem d_Mo_reckonAll_12 : decode (yB Y_Mo_reckonAll) 12 = .ok (.iload_n 2, 1) := by decide +kernel
theorem d_Mo_reckonAll_13 : decode (yB Y_Mo_reckonAll) 13 = .ok (.if_icmp .ge 356, 3) := by decide +kernel
theorem d_Mo_reckonAll_16 : decode (yB Y_Mo_reckonAll) 16 = .ok (.aload_n 0, 1) := by decide +kernel
theorem d_Mo_reckonAll_17 : decode (yB Y_Mo_reckonAll) 17 = .ok (.getfield 405, 3) := by decide +kernel
theorem d_Mo_reckonAll_20 : decode (yB Y_Mo_reckonAll) 20 = .ok (.ifCond .ne 349, 3) := by decide +kernel
theorem d_Mo_reckonAll_23 : decode (yB Y_Mo_reckonAll) 23 = .ok (.aload_n 0, 1) := by decide +kernel
theorem d_Mo_reckonAll_24 : decode (yB Y_Mo_reckonAll) 24 = .ok (.getfield 331, 3) := by decide +kernel
theorem d_Mo_reckonAll_27 : decode (yB Y_Mo_reckonAll) 27 = .ok (.ifCond .eq 13, 3) := by decide +kernel
theorem d_Mo_reckonAll_30 : decode (yB Y_Mo_reckonAll) 30 = .ok (.aload_n 0, 1) := by decide +kernel
theorem d_Mo_reckonAll_31 : decode (yB Y_Mo_reckonAll) 31 = .ok (.getfield 45, 3) := by decide +kernel
theorem d_Mo_reckonAll_34 : decode (yB Y_Mo_reckonAll) 34 = .ok (.iload 4, 2) := by decide +kernel
theorem d_Mo_reckonAll_36 : decode (yB Y_Mo_reckonAll) 36 = .ok (.iaload, 1) := by decide +kernel
theorem d_Mo_reckonAll_37 : decode (yB Y_Mo_reckonAll) 37 = .ok (.goto 20, 3) := by decide +kernel
theorem d_Mo_reckonAll_40 : decode (yB Y_Mo_reckonAll) 40 = .ok (.aload_n 0, 1) := by decide +kernel
theorem d_Mo_reckonAll_41 : decode (yB Y_Mo_reckonAll) 41 = .ok (.getfield 13, 3) := by decide +kernel
theorem d_Mo_reckonAll_44 : decode (yB Y_Mo_reckonAll) 44 = .ok (.aload_n 0, 1) := by decide +kernel
theorem d_Mo_reckonAll_45 : decode (yB Y_Mo_reckonAll) 45 = .ok (.getfield 408, 3) := by decide +kernel
theorem d_Mo_reckonAll_48 : decode (yB Y_Mo_reckonAll) 48 = .ok (.bipush 98, 2) := by decide +kernel
theorem d_Mo_reckonAll_50 : decode (yB Y_Mo_reckonAll) 50 = .ok (.iadd, 1) := by decide +kernel
theorem d_Mo_reckonAll_51 : decode (yB Y_Mo_reckonAll) 51 = .ok (.iconst 2, 1) := by decide +kernel
theorem d_Mo_reckonAll_52 : decode (yB Y_Mo_reckonAll) 52 = .ok (.iload 4, 2) := by decide +kernel
theorem d_Mo_reckonAll_54 : decode (yB Y_Mo_reckonAll) 54 = .ok (.imul, 1) := by decide +kernel
theorem d_Mo_reckonAll_55 : decode (yB Y_Mo_reckonAll) 55 = .ok (.iadd, 1) := by decide +kernel
theorem d_Mo_reckonAll_56 : decode (yB Y_Mo_reckonAll) 56 = .ok (.iaload, 1) := by decide +kernel
theorem d_Mo_reckonAll_57 : decode (yB Y_Mo_reckonAll) 57 = .ok (.istore 5, 2) := by decide +kernel
theorem d_Mo_reckonAll_59 : decode (yB Y_Mo_reckonAll) 59 = .ok (.aload_n 0, 1) := by decide +kernel
theorem d_Mo_reckonAll_60 : decode (yB Y_Mo_reckonAll) 60 = .ok (.getfield 331, 3) := by decide +kernel
theorem d_Mo_reckonAll_63 : decode (yB Y_Mo_reckonAll) 63 = .ok (.ifCond .eq 13, 3) := by decide +kernel
theorem d_Mo_reckonAll_66 : decode (yB Y_Mo_reckonAll) 66 = .ok (.aload_n 0, 1) := by decide +kernel
theorem d_Mo_reckonAll_67 : decode (yB Y_Mo_reckonAll) 67 = .ok (.getfield 48, 3) := by decide +kernel
theorem d_Mo_reckonAll_70 : decode (yB Y_Mo_reckonAll) 70 = .ok (.iload 4, 2) := by decide +kernel
theorem d_Mo_reckonAll_72 : decode (yB Y_Mo_reckonAll) 72 = .ok (.iaload, 1) := by decide +kernel
theorem d_Mo_reckonAll_73 : decode (yB Y_Mo_reckonAll) 73 = .ok (.goto 22, 3) := by decide +kernel
theorem d_Mo_reckonAll_76 : decode (yB Y_Mo_reckonAll) 76 = .ok (.aload_n 0, 1) := by decide +kernel
theorem d_Mo_reckonAll_77 : decode (yB Y_Mo_reckonAll) 77 = .ok (.getfield 13, 3) := by decide +kernel
theorem d_Mo_reckonAll_80 : decode (yB Y_Mo_reckonAll) 80 = .ok (.aload_n 0, 1) := by decide +kernel
theorem d_Mo_reckonAll_81 : decode (yB Y_Mo_reckonAll) 81 = .ok (.getfield 408, 3) := by decide +kernel
theorem d_Mo_reckonAll_84 : decode (yB Y_Mo_reckonAll) 84 = .ok (.bipush 98, 2) := by decide +kernel
theorem d_Mo_reckonAll_86 : decode (yB Y_Mo_reckonAll) 86 = .ok (.iadd, 1) := by decide +kernel
theorem d_Mo_reckonAll_87 : decode (yB Y_Mo_reckonAll) 87 = .ok (.iconst 2, 1) := by decide +kernel
theorem d_Mo_reckonAll_88 : decode (yB Y_Mo_reckonAll) 88 = .ok (.iload 4, 2) := by decide +kernel
theorem d_Mo_reckonAll_90 : decode (yB Y_Mo_reckonAll) 90 = .ok (.imul, 1) := by decide +kernel
theorem d_Mo_reckonAll_91 : decode (yB Y_Mo_reckonAll) 91 = .ok (.iadd, 1) := by decide +kernel
theorem d_Mo_reckonAll_92 : decode (yB Y_Mo_reckonAll) 92 = .ok (.iconst 1, 1) := by decide +kernel
theorem d_Mo_reckonAll_93 : decode (yB Y_Mo_reckonAll) 93 = .ok (.iadd, 1) := by decide +kernel
theorem d_Mo_reckonAll_94 : decode (yB Y_Mo_reckonAll) 94 = .ok (.iaload, 1) := by decide +kernel
theorem d_Mo_reckonAll_95 : decode (yB Y_Mo_reckonAll) 95 = .ok (.istore 6, 2) := by decide +kernel
theorem d_Mo_reckonAll_97 : decode (yB Y_Mo_reckonAll) 97 = .ok (.iinc 4 1, 3) := by decide +kernel
theorem d_Mo_reckonAll_100 : decode (yB Y_Mo_reckonAll) 100 = .ok (.iload 5, 2) := by decide +kernel
theorem d_Mo_reckonAll_102 : decode (yB Y_Mo_reckonAll) 102 = .ok (.bipush 20, 2) := by decide +kernel
theorem d_Mo_reckonAll_104 : decode (yB Y_Mo_reckonAll) 104 = .ok (.if_icmp .ge 123, 3) := by decide +kernel
theorem d_Mo_reckonAll_107 : decode (yB Y_Mo_reckonAll) 107 = .ok (.aload_n 0, 1) := by decide +kernel
theorem d_Mo_reckonAll_108 : decode (yB Y_Mo_reckonAll) 108 = .ok (.getfield 109, 3) := by decide +kernel
theorem d_Mo_reckonAll_111 : decode (yB Y_Mo_reckonAll) 111 = .ok (.iload_n 3, 1) := by decide +kernel
theorem d_Mo_reckonAll_112 : decode (yB Y_Mo_reckonAll) 112 = .ok (.iload 5, 2) := by decide +kernel
theorem d_Mo_reckonAll_114 : decode (yB Y_Mo_reckonAll) 114 = .ok (.ifCond .ne 9, 3) := by decide +kernel
theorem d_Mo_reckonAll_117 : decode (yB Y_Mo_reckonAll) 117 = .ok (.iload 6, 2) := by decide +kernel
theorem d_Mo_reckonAll_119 : decode (yB Y_Mo_reckonAll) 119 = .ok (.i2l, 1) := by decide +kernel
theorem d_Mo_reckonAll_120 : decode (yB Y_Mo_reckonAll) 120 = .ok (.goto 100, 3) := by decide +kernel
theorem d_Mo_reckonAll_123 : decode (yB Y_Mo_reckonAll) 123 = .ok (.aload_n 0, 1) := by decide +kernel
theorem d_Mo_reckonAll_124 : decode (yB Y_Mo_reckonAll) 124 = .ok (.getfield 331, 3) := by decide +kernel
theorem d_Mo_reckonAll_127 : decode (yB Y_Mo_reckonAll) 127 = .ok (.ifCond .ne 13, 3) := by decide +kernel
theorem d_Mo_reckonAll_130 : decode (yB Y_Mo_reckonAll) 130 = .ok (.aload_n 0, 1) := by decide +kernel
theorem d_Mo_reckonAll_131 : decode (yB Y_Mo_reckonAll) 131 = .ok (.getfield 103, 3) := by decide +kernel
theorem d_Mo_reckonAll_134 : decode (yB Y_Mo_reckonAll) 134 = .ok (.iload 5, 2) := by decide +kernel
theorem d_Mo_reckonAll_136 : decode (yB Y_Mo_reckonAll) 136 = .ok (.laload, 1) := by decide +kernel
theorem d_Mo_reckonAll_137 : decode (yB Y_Mo_reckonAll) 137 = .ok (.goto 83, 3) := by decide +kernel
theorem d_Mo_reckonAll_140 : decode (yB Y_Mo_reckonAll) 140 = .ok (.iload 5, 2) := by decide +kernel
theorem d_Mo_reckonAll_142 : decode (yB Y_Mo_reckonAll) 142 = .ok (.iconst 5, 1) := by decide +kernel
theorem d_Mo_reckonAll_143 : decode (yB Y_Mo_reckonAll) 143 = .ok (.if_icmp .ge 13, 3) := by decide +kernel
theorem d_Mo_reckonAll_146 : decode (yB Y_Mo_reckonAll) 146 = .ok (.aload_n 0, 1) := by decide +kernel
theorem d_Mo_reckonAll_147 : decode (yB Y_Mo_reckonAll) 147 = .ok (.getfield 106, 3) := by decide +kernel
theorem d_Mo_reckonAll_150 : decode (yB Y_Mo_reckonAll) 150 = .ok (.iload 5, 2) := by decide +kernel
theorem d_Mo_reckonAll_152 : decode (yB Y_Mo_reckonAll) 152 = .ok (.laload, 1) := by decide +kernel
theorem d_Mo_reckonAll_153 : decode (yB Y_Mo_reckonAll) 153 = .ok (.goto 67, 3) := by decide +kernel
theorem d_Mo_reckonAll_156 : decode (yB Y_Mo_reckonAll) 156 = .ok (.iload 5, 2) := by decide +kernel
theorem d_Mo_reckonAll_158 : decode (yB Y_Mo_reckonAll) 158 = .ok (.iconst 5, 1) := by decide +kernel
theorem d_Mo_reckonAll_159 : decode (yB Y_Mo_reckonAll) 159 = .ok (.if_icmp .ne 17, 3) := by decide +kernel
theorem d_Mo_reckonAll_162 : decode (yB Y_Mo_reckonAll) 162 = .ok (.aload_n 0, 1) := by decide +kernel
theorem d_Mo_reckonAll_163 : decode (yB Y_Mo_reckonAll) 163 = .ok (.getfield 13, 3) := by decide +kernel
theorem d_Mo_reckonAll_166 : decode (yB Y_Mo_reckonAll) 166 = .ok (.bipush 8, 2) := by decide +kernel
theorem d_Mo_reckonAll_168 : decode (yB Y_Mo_reckonAll) 168 = .ok (.iload 6, 2) := by decide +kernel
theorem d_Mo_reckonAll_170 : decode (yB Y_Mo_reckonAll) 170 = .ok (.iadd, 1) := by decide +kernel
theorem d_Mo_reckonAll_171 : decode (yB Y_Mo_reckonAll) 171 = .ok (.iaload, 1) := by decide +kernel
theorem d_Mo_reckonAll_172 : decode (yB Y_Mo_reckonAll) 172 = .ok (.i2l, 1) := by decide +kernel
theorem d_Mo_reckonAll_173 : decode (yB Y_Mo_reckonAll) 173 = .ok (.goto 47, 3) := by decide +kernel
theorem d_Mo_reckonAll_176 : decode (yB Y_Mo_reckonAll) 176 = .ok (.iload 5, 2) := by decide +kernel
theorem d_Mo_reckonAll_178 : decode (yB Y_Mo_reckonAll) 178 = .ok (.bipush 6, 2) := by decide +kernel
theorem d_Mo_reckonAll_180 : decode (yB Y_Mo_reckonAll) 180 = .ok (.if_icmp .le 14, 3) := by decide +kernel
theorem d_Mo_reckonAll_183 : decode (yB Y_Mo_reckonAll) 183 = .ok (.aload_n 0, 1) := by decide +kernel
theorem d_Mo_reckonAll_184 : decode (yB Y_Mo_reckonAll) 184 = .ok (.getfield 112, 3) := by decide +kernel
theorem d_Mo_reckonAll_187 : decode (yB Y_Mo_reckonAll) 187 = .ok (.iload 6, 2) := by decide +kernel
theorem d_Mo_reckonAll_189 : decode (yB Y_Mo_reckonAll) 189 = .ok (.iaload, 1) := by decide +kernel
theorem d_Mo_reckonAll_190 : decode (yB Y_Mo_reckonAll) 190 = .ok (.i2l, 1) := by decide +kernel
theorem d_Mo_reckonAll_191 : decode (yB Y_Mo_reckonAll) 191 = .ok (.goto 29, 3) := by decide +kernel
theorem d_Mo_reckonAll_194 : decode (yB Y_Mo_reckonAll) 194 = .ok (.aload_n 0, 1) := by decide +kernel
theorem d_Mo_reckonAll_195 : decode (yB Y_Mo_reckonAll) 195 = .ok (.iload 6, 2) := by decide +kernel
theorem d_Mo_reckonAll_197 : decode (yB Y_Mo_reckonAll) 197 = .ok (.invokevirtual 214, 3) := by decide +kernel
theorem d_Mo_reckonAll_200 : decode (yB Y_Mo_reckonAll) 200 = .ok (.ifCond .eq 17, 3) := by decide +kernel
theorem d_Mo_reckonAll_203 : decode (yB Y_Mo_reckonAll) 203 = .ok (.aload_n 0, 1) := by decide +kernel
theorem d_Mo_reckonAll_204 : decode (yB Y_Mo_reckonAll) 204 = .ok (.getfield 13, 3) := by decide +kernel
theorem d_Mo_reckonAll_207 : decode (yB Y_Mo_reckonAll) 207 = .ok (.bipush 48, 2) := by decide +kernel
theorem d_Mo_reckonAll_209 : decode (yB Y_Mo_reckonAll) 209 = .ok (.iload 6, 2) := by decide +kernel
theorem d_Mo_reckonAll_211 : decode (yB Y_Mo_reckonAll) 211 = .ok (.iadd, 1) := by decide +kernel
theorem d_Mo_reckonAll_212 : decode (yB Y_Mo_reckonAll) 212 = .ok (.iaload, 1) := by decide +kernel
theorem d_Mo_reckonAll_213 : decode (yB Y_Mo_reckonAll) 213 = .ok (.i2l, 1) := by decide +kernel
theorem d_Mo_reckonAll_214 : decode (yB Y_Mo_reckonAll) 214 = .ok (.goto 6, 3) := by decide +kernel
theorem d_Mo_reckonAll_217 : decode (yB Y_Mo_reckonAll) 217 = .ok (.ldc2_w 228, 3) := by decide +kernel
theorem d_Mo_reckonAll_220 : decode (yB Y_Mo_reckonAll) 220 = .ok (.lastore, 1) := by decide +kernel
theorem d_Mo_reckonAll_221 : decode (yB Y_Mo_reckonAll) 221 = .ok (.iinc 3 1, 3) := by decide +kernel
theorem d_Mo_reckonAll_224 : decode (yB Y_Mo_reckonAll) 224 = .ok (.goto 142, 3) := by decide +kernel
theorem d_Mo_reckonAll_227 : decode (yB Y_Mo_reckonAll) 227 = .ok (.iload 5, 2) := by decide +kernel
theorem d_Mo_reckonAll_229 : decode (yB Y_Mo_reckonAll) 229 = .ok (.bipush 28, 2) := by decide +kernel
theorem d_Mo_reckonAll_231 : decode (yB Y_Mo_reckonAll) 231 = .ok (.if_icmp .ge 73, 3) := by decide +kernel
theorem d_Mo_reckonAll_234 : decode (yB Y_Mo_reckonAll) 234 = .ok (.iinc 3 (-1), 3) := by decide +kernel
theorem d_Mo_reckonAll_237 : decode (yB Y_Mo_reckonAll) 237 = .ok (.aload_n 0, 1) := by decide +kernel
theorem d_Mo_reckonAll_238 : decode (yB Y_Mo_reckonAll) 238 = .ok (.getfield 109, 3) := by decide +kernel
theorem d_Mo_reckonAll_241 : decode (yB Y_Mo_reckonAll) 241 = .ok (.iload_n 3, 1) := by decide +kernel
theorem d_Mo_reckonAll_242 : decode (yB Y_Mo_reckonAll) 242 = .ok (.iconst 1, 1) := by decide +kernel
theorem d_Mo_reckonAll_243 : decode (yB Y_Mo_reckonAll) 243 = .ok (.isub, 1) := by decide +kernel
theorem d_Mo_reckonAll_244 : decode (yB Y_Mo_reckonAll) 244 = .ok (.aload_n 0, 1) := by decide +kernel
theorem d_Mo_reckonAll_245 : decode (yB Y_Mo_reckonAll) 245 = .ok (.iload 5, 2) := by decide +kernel
theorem d_Mo_reckonAll_247 : decode (yB Y_Mo_reckonAll) 247 = .ok (.aload_n 0, 1) := by decide +kernel
theorem d_Mo_reckonAll_248 : decode (yB Y_Mo_reckonAll) 248 = .ok (.getfield 109, 3) := by decide +kernel
theorem d_Mo_reckonAll_251 : decode (yB Y_Mo_reckonAll) 251 = .ok (.iload_n 3, 1) := by decide +kernel
theorem d_Mo_reckonAll_252 : decode (yB Y_Mo_reckonAll) 252 = .ok (.iconst 1, 1) := by decide +kernel
theorem d_Mo_reckonAll_253 : decode (yB Y_Mo_reckonAll) 253 = .ok (.isub, 1) := by decide +kernel
theorem d_Mo_reckonAll_254 : decode (yB Y_Mo_reckonAll) 254 = .ok (.laload, 1) := by decide +kernel
theorem d_Mo_reckonAll_255 : decode (yB Y_Mo_reckonAll) 255 = .ok (.aload_n 0, 1) := by decide +kernel
theorem d_Mo_reckonAll_256 : decode (yB Y_Mo_reckonAll) 256 = .ok (.getfield 109, 3) := by decide +kernel
theorem d_Mo_reckonAll_259 : decode (yB Y_Mo_reckonAll) 259 = .ok (.iload_n 3, 1) := by decide +kernel
theorem d_Mo_reckonAll_260 : decode (yB Y_Mo_reckonAll) 260 = .ok (.laload, 1) := by decide +kernel
theorem d_Mo_reckonAll_261 : decode (yB Y_Mo_reckonAll) 261 = .ok (.invokevirtual 411, 3) := by decide +kernel
theorem d_Mo_reckonAll_264 : decode (yB Y_Mo_reckonAll) 264 = .ok (.lastore, 1) := by decide +kernel
theorem d_Mo_reckonAll_265 : decode (yB Y_Mo_reckonAll) 265 = .ok (.aload_n 0, 1) := by decide +kernel
theorem d_Mo_reckonAll_266 : decode (yB Y_Mo_reckonAll) 266 = .ok (.aload_n 0, 1) := by decide +kernel
theorem d_Mo_reckonAll_267 : decode (yB Y_Mo_reckonAll) 267 = .ok (.getfield 405, 3) := by decide +kernel
theorem d_Mo_reckonAll_270 : decode (yB Y_Mo_reckonAll) 270 = .ok (.ifCond .ne 23, 3) := by decide +kernel
theorem d_Mo_reckonAll_273 : decode (yB Y_Mo_reckonAll) 273 = .ok (.aload_n 0, 1) := by decide +kernel
theorem d_Mo_reckonAll_274 : decode (yB Y_Mo_reckonAll) 274 = .ok (.getfield 109, 3) := by decide +kernel
theorem d_Mo_reckonAll_277 : decode (yB Y_Mo_reckonAll) 277 = .ok (.iload_n 3, 1) := by decide +kernel
theorem d_Mo_reckonAll_278 : decode (yB Y_Mo_reckonAll) 278 = .ok (.iconst 1, 1) := by decide +kernel
theorem d_Mo_reckonAll_279 : decode (yB Y_Mo_reckonAll) 279 = .ok (.isub, 1) := by decide +kernel
theorem d_Mo_reckonAll_280 : decode (yB Y_Mo_reckonAll) 280 = .ok (.laload, 1) := by decide +kernel
theorem d_Mo_reckonAll_281 : decode (yB Y_Mo_reckonAll) 281 = .ok (.ldc2_w 415, 3) := by decide +kernel
theorem d_Mo_reckonAll_284 : decode (yB Y_Mo_reckonAll) 284 = .ok (.ldc2_w 417, 3) := by decide +kernel
theorem d_Mo_reckonAll_287 : decode (yB Y_Mo_reckonAll) 287 = .ok (.invokestatic 176, 3) := by decide +kernel
theorem d_Mo_reckonAll_290 : decode (yB Y_Mo_reckonAll) 290 = .ok (.ifCond .ne 7, 3) := by decide +kernel
theorem d_Mo_reckonAll_293 : decode (yB Y_Mo_reckonAll) 293 = .ok (.iconst 1, 1) := by decide +kernel
theorem d_Mo_reckonAll_294 : decode (yB Y_Mo_reckonAll) 294 = .ok (.goto 4, 3) := by decide +kernel
theorem d_Mo_reckonAll_297 : decode (yB Y_Mo_reckonAll) 297 = .ok (.iconst 0, 1) := by decide +kernel
theorem d_Mo_reckonAll_298 : decode (yB Y_Mo_reckonAll) 298 = .ok (.putfield 405, 3) := by decide +kernel
theorem d_Mo_reckonAll_301 : decode (yB Y_Mo_reckonAll) 301 = .ok (.goto 65, 3) := by decide +kernel
theorem d_Mo_reckonAll_304 : decode (yB Y_Mo_reckonAll) 304 = .ok (.iload 5, 2) := by decide +kernel
theorem d_Mo_reckonAll_306 : decode (yB Y_Mo_reckonAll) 306 = .ok (.bipush 28, 2) := by decide +kernel
theorem d_Mo_reckonAll_308 : decode (yB Y_Mo_reckonAll) 308 = .ok (.if_icmp .ne 24, 3) := by decide +kernel
theorem d_Mo_reckonAll_311 : decode (yB Y_Mo_reckonAll) 311 = .ok (.aload_n 0, 1) := by decide +kernel
theorem d_Mo_reckonAll_312 : decode (yB Y_Mo_reckonAll) 312 = .ok (.getfield 109, 3) := by decide +kernel
theorem d_Mo_reckonAll_315 : decode (yB Y_Mo_reckonAll) 315 = .ok (.iload_n 3, 1) := by decide +kernel
theorem d_Mo_reckonAll_316 : decode (yB Y_Mo_reckonAll) 316 = .ok (.iconst 1, 1) := by decide +kernel
theorem d_Mo_reckonAll_317 : decode (yB Y_Mo_reckonAll) 317 = .ok (.isub, 1) := by decide +kernel
theorem d_Mo_reckonAll_318 : decode (yB Y_Mo_reckonAll) 318 = .ok (.lconst 1, 1) := by decide +kernel
theorem d_Mo_reckonAll_319 : decode (yB Y_Mo_reckonAll) 319 = .ok (.aload_n 0, 1) := by decide +kernel
theorem d_Mo_reckonAll_320 : decode (yB Y_Mo_reckonAll) 320 = .ok (.getfield 109, 3) := by decide +kernel
theorem d_Mo_reckonAll_323 : decode (yB Y_Mo_reckonAll) 323 = .ok (.iload_n 3, 1) := by decide +kernel
theorem d_Mo_reckonAll_324 : decode (yB Y_Mo_reckonAll) 324 = .ok (.iconst 1, 1) := by decide +kernel
theorem d_Mo_reckonAll_325 : decode (yB Y_Mo_reckonAll) 325 = .ok (.isub, 1) := by decide +kernel
theorem d_Mo_reckonAll_326 : decode (yB Y_Mo_reckonAll) 326 = .ok (.laload, 1) := by decide +kernel
theorem d_Mo_reckonAll_327 : decode (yB Y_Mo_reckonAll) 327 = .ok (.lsub, 1) := by decide +kernel
theorem d_Mo_reckonAll_328 : decode (yB Y_Mo_reckonAll) 328 = .ok (.lastore, 1) := by decide +kernel
theorem d_Mo_reckonAll_329 : decode (yB Y_Mo_reckonAll) 329 = .ok (.goto 37, 3) := by decide +kernel
theorem d_Mo_reckonAll_332 : decode (yB Y_Mo_reckonAll) 332 = .ok (.aload_n 0, 1) := by decide +kernel
theorem d_Mo_reckonAll_333 : decode (yB Y_Mo_reckonAll) 333 = .ok (.getfield 109, 3) := by decide +kernel
theorem d_Mo_reckonAll_336 : decode (yB Y_Mo_reckonAll) 336 = .ok (.iload_n 3, 1) := by decide +kernel
theorem d_Mo_reckonAll_337 : decode (yB Y_Mo_reckonAll) 337 = .ok (.iconst 1, 1) := by decide +kernel
theorem d_Mo_reckonAll_338 : decode (yB Y_Mo_reckonAll) 338 = .ok (.isub, 1) := by decide +kernel
theorem d_Mo_reckonAll_339 : decode (yB Y_Mo_reckonAll) 339 = .ok (.laload, 1) := by decide +kernel
theorem d_Mo_reckonAll_340 : decode (yB Y_Mo_reckonAll) 340 = .ok (.iload 5, 2) := by decide +kernel
theorem d_Mo_reckonAll_342 : decode (yB Y_Mo_reckonAll) 342 = .ok (.bipush 29, 2) := by decide +kernel
theorem d_Mo_reckonAll_344 : decode (yB Y_Mo_reckonAll) 344 = .ok (.if_icmp .ne 7, 3) := by decide +kernel
theorem d_Mo_reckonAll_347 : decode (yB Y_Mo_reckonAll) 347 = .ok (.lconst 0, 1) := by decide +kernel
theorem d_Mo_reckonAll_348 : decode (yB Y_Mo_reckonAll) 348 = .ok (.goto 4, 3) := by decide +kernel
theorem d_Mo_reckonAll_351 : decode (yB Y_Mo_reckonAll) 351 = .ok (.lconst 1, 1) := by decide +kernel
theorem d_Mo_reckonAll_352 : decode (yB Y_Mo_reckonAll) 352 = .ok (.lcmp, 1) := by decide +kernel
theorem d_Mo_reckonAll_353 : decode (yB Y_Mo_reckonAll) 353 = .ok (.ifCond .ne 10, 3) := by decide +kernel
theorem d_Mo_reckonAll_356 : decode (yB Y_Mo_reckonAll) 356 = .ok (.iload 6, 2) := by decide +kernel
theorem d_Mo_reckonAll_358 : decode (yB Y_Mo_reckonAll) 358 = .ok (.istore 4, 2) := by decide +kernel
theorem d_Mo_reckonAll_360 : decode (yB Y_Mo_reckonAll) 360 = .ok (.goto 6, 3) := by decide +kernel
theorem d_Mo_reckonAll_363 : decode (yB Y_Mo_reckonAll) 363 = .ok (.iinc 3 (-1), 3) := by decide +kernel
theorem d_Mo_reckonAll_366 : decode (yB Y_Mo_reckonAll) 366 = .ok (.goto (-356), 3) := by decide +kernel
theorem d_Mo_reckonAll_369 : decode (yB Y_Mo_reckonAll) 369 = .ok (.aload_n 0, 1) := by decide +kernel
theorem d_Mo_reckonAll_370 : decode (yB Y_Mo_reckonAll) 370 = .ok (.iload_n 3, 1) := by decide +kernel
theorem d_Mo_reckonAll_371 : decode (yB Y_Mo_reckonAll) 371 = .ok (.ifCond .le 12, 3) := by decide +kernel
theorem d_Mo_reckonAll_374 : decode (yB Y_Mo_reckonAll) 374 = .ok (.aload_n 0, 1) := by decide +kernel
theorem d_Mo_reckonAll_375 : decode (yB Y_Mo_reckonAll) 375 = .ok (.getfield 109, 3) := by decide +kernel
theorem d_Mo_reckonAll_378 : decode (yB Y_Mo_reckonAll) 378 = .ok (.iconst 0, 1) := by decide +kernel
theorem d_Mo_reckonAll_379 : decode (yB Y_Mo_reckonAll) 379 = .ok (.laload, 1) := by decide +kernel
theorem d_Mo_reckonAll_380 : decode (yB Y_Mo_reckonAll) 380 = .ok (.goto 4, 3) := by decide +kernel
theorem d_Mo_reckonAll_383 : decode (yB Y_Mo_reckonAll) 383 = .ok (.lconst 0, 1) := by decide +kernel
theorem d_Mo_reckonAll_384 : decode (yB Y_Mo_reckonAll) 384 = .ok (.putfield 419, 3) := by decide +kernel
theorem d_Mo_reckonAll_387 : decode (yB Y_Mo_reckonAll) 387 = .ok (.return_, 1) := by decide +kernel
def F_Mo_reckonAll_b366 (n : Nat) (E : zE) (S : zS) (r10 : Nat × Int32 × Int32 × Int32 × zH → Option (zH)) (a0 : Nat) (x2 : Int32) (x3 : Int32) (x4 : Int32) (M : zH) : Option (zH) :=
  r10 (a0, x2, x3, x4, M)
def F_Mo_reckonAll_b220 (n : Nat) (E : zE) (S : zS) (r10 : Nat × Int32 × Int32 × Int32 × zH → Option (zH)) (a0 : Nat) (x2 : Int32) (x3 : Int32) (x4 : Int32) (t0 : Int64) (s1 : Int32) (u2 : Nat) (M : zH) : Option (zH) :=
  (zstJ S M u2 s1 t0).bind fun m_1 =>
  F_Mo_reckonAll_b366 n E S r10 a0 x2 (x3 + 1) x4 m_1
def F_Mo_reckonAll_b298 (n : Nat) (E : zE) (S : zS) (r10 : Nat × Int32 × Int32 × Int32 × zH → Option (zH)) (a0 : Nat) (x2 : Int32) (x3 : Int32) (x4 : Int32) (s0 : Int32) (u1 : Nat) (M : zH) : Option (zH) :=
  (zpZ S M u1 11 38 s0).bind fun m_2 =>
  F_Mo_reckonAll_b366 n E S r10 a0 x2 x3 x4 m_2
def F_Mo_reckonAll_b293 (n : Nat) (E : zE) (S : zS) (r10 : Nat × Int32 × Int32 × Int32 × zH → Option (zH)) (a0 : Nat) (x2 : Int32) (x3 : Int32) (x4 : Int32) (u0 : Nat) (M : zH) : Option (zH) :=
  F_Mo_reckonAll_b298 n E S r10 a0 x2 x3 x4 1 u0 M
def F_Mo_reckonAll_b352 (n : Nat) (E : zE) (S : zS) (r10 : Nat × Int32 × Int32 × Int32 × zH → Option (zH)) (a0 : Nat) (x2 : Int32) (x3 : Int32) (x4 : Int32) (x6 : Int32) (t0 : Int64) (t1 : Int64) (M : zH) : Option (zH) :=
  if t1 = t0 then
    F_Mo_reckonAll_b366 n E S r10 a0 x2 x3 x6 M
  else
    F_Mo_reckonAll_b366 n E S r10 a0 x2 (x3 + (-1)) x4 M
def F_Mo_reckonAll_b95 (n : Nat) (E : zE) (S : zS) (r10 : Nat × Int32 × Int32 × Int32 × zH → Option (zH)) (a0 : Nat) (x2 : Int32) (x3 : Int32) (x4 : Int32) (x5 : Int32) (s0 : Int32) (M : zH) : Option (zH) :=
  if 20 ≤ x5 then
    if 28 ≤ x5 then
      if x5 = 28 then
        (zgR S a0 11 37).bind fun b_7 =>
        (zldJ S M b_7 (x3 - 1)).bind fun v_8 =>
        (zstJ S M b_7 (x3 - 1) (1 - v_8)).bind fun m_9 =>
        F_Mo_reckonAll_b366 n E S r10 a0 x2 x3 (x4 + 1) m_9
      else
        (zgR S a0 11 37).bind fun b_10 =>
        (zldJ S M b_10 (x3 - 1)).bind fun v_11 =>
        if x5 = 29 then
          F_Mo_reckonAll_b352 n E S r10 a0 x2 x3 (x4 + 1) s0 0 v_11 M
        else
          F_Mo_reckonAll_b352 n E S r10 a0 x2 x3 (x4 + 1) s0 1 v_11 M
    else
      (zgR S a0 11 37).bind fun b_13 =>
      (zldJ S M b_13 ((x3 + (-1)) - 1)).bind fun v_14 =>
      (zldJ S M b_13 (x3 + (-1))).bind fun v_15 =>
      (F_Mo_reckon n E S a0 x5 v_14 v_15 M).bind fun q_16 =>
      (zstJ S q_16.2 b_13 ((x3 + (-1)) - 1) q_16.1).bind fun m_17 =>
      (zgI S m_17 a0 11 38).bind fun v_18 =>
      if v_18 = 0 then
        (zldJ S m_17 b_13 ((x3 + (-1)) - 1)).bind fun v_20 =>
        (F_Mo_in n E S v_20 (-1000000000) 1000000000 m_17).bind fun q_21 =>
        if q_21.1 = true then
          F_Mo_reckonAll_b298 n E S r10 a0 x2 (x3 + (-1)) (x4 + 1) 0 a0 q_21.2
        else
          F_Mo_reckonAll_b293 n E S r10 a0 x2 (x3 + (-1)) (x4 + 1) a0 q_21.2
      else
        F_Mo_reckonAll_b293 n E S r10 a0 x2 (x3 + (-1)) (x4 + 1) a0 m_17
  else
    (zgR S a0 11 37).bind fun b_23 =>
    if x5 = 0 then
      F_Mo_reckonAll_b220 n E S r10 a0 x2 x3 (x4 + 1) s0.toInt64 x3 b_23 M
    else
      (zgI S M a0 11 20).bind fun v_25 =>
      if v_25 = 0 then
        (zgR S a0 11 35).bind fun b_27 =>
        (zldJ S M b_27 x5).bind fun v_28 =>
        F_Mo_reckonAll_b220 n E S r10 a0 x2 x3 (x4 + 1) v_28 x3 b_23 M
      else
        if 5 ≤ x5 then
          if x5 = 5 then
            (zgR S a0 11 3).bind fun b_31 =>
            (zldI S M b_31 (8 + s0)).bind fun v_32 =>
            F_Mo_reckonAll_b220 n E S r10 a0 x2 x3 (x4 + 1) v_32.toInt64 x3 b_23 M
          else
            if x5 ≤ 6 then
              (F_Mo_isBucket n E S a0 s0 M).bind fun q_34 =>
              if q_34.1 = true then
                (zgR S a0 11 3).bind fun b_36 =>
                (zldI S q_34.2 b_36 (48 + s0)).bind fun v_37 =>
                F_Mo_reckonAll_b220 n E S r10 a0 x2 x3 (x4 + 1) v_37.toInt64 x3 b_23 q_34.2
              else
                F_Mo_reckonAll_b220 n E S r10 a0 x2 x3 (x4 + 1) (-1) x3 b_23 q_34.2
            else
              (zgR S a0 11 41).bind fun b_38 =>
              (zldI S M b_38 s0).bind fun v_39 =>
              F_Mo_reckonAll_b220 n E S r10 a0 x2 x3 (x4 + 1) v_39.toInt64 x3 b_23 M
        else
          (zgR S a0 11 36).bind fun b_40 =>
          (zldJ S M b_40 x5).bind fun v_41 =>
          F_Mo_reckonAll_b220 n E S r10 a0 x2 x3 (x4 + 1) v_41 x3 b_23 M
def F_Mo_reckonAll_b57 (n : Nat) (E : zE) (S : zS) (r10 : Nat × Int32 × Int32 × Int32 × zH → Option (zH)) (a0 : Nat) (x2 : Int32) (x3 : Int32) (x4 : Int32) (s0 : Int32) (M : zH) : Option (zH) :=
  (zgI S M a0 11 20).bind fun v_42 =>
  if v_42 = 0 then
    (zgR S a0 11 3).bind fun b_44 =>
    (zgI S M a0 11 34).bind fun v_45 =>
    (zldI S M b_44 (((v_45 + 98) + (2 * x4)) + 1)).bind fun v_46 =>
    F_Mo_reckonAll_b95 n E S r10 a0 x2 x3 x4 s0 v_46 M
  else
    (zgR S a0 11 25).bind fun b_47 =>
    (zldI S M b_47 x4).bind fun v_48 =>
    F_Mo_reckonAll_b95 n E S r10 a0 x2 x3 x4 s0 v_48 M
def F_Mo_reckonAll_b384 (n : Nat) (E : zE) (S : zS) (t0 : Int64) (u1 : Nat) (M : zH) : Option (zH) :=
  (zpJ S M u1 11 39 t0).bind fun m_49 =>
  some (m_49)
def F_Mo_reckonAll_b369 (n : Nat) (E : zE) (S : zS) (a0 : Nat) (x3 : Int32) (M : zH) : Option (zH) :=
  if x3 ≤ 0 then
    F_Mo_reckonAll_b384 n E S 0 a0 M
  else
    (zgR S a0 11 37).bind fun b_51 =>
    (zldJ S M b_51 0).bind fun v_52 =>
    F_Mo_reckonAll_b384 n E S v_52 a0 M
def F_Mo_reckonAll_L10 (n : Nat) (E : zE) (S : zS) (r10 : Nat × Int32 × Int32 × Int32 × zH → Option (zH)) (a0 : Nat) (x2 : Int32) (x3 : Int32) (x4 : Int32) (M : zH) : Option (zH) :=
  if x2 ≤ x4 then
    F_Mo_reckonAll_b369 n E S a0 x3 M
  else
    (zgI S M a0 11 38).bind fun v_54 =>
    if v_54 = 0 then
      (zgI S M a0 11 20).bind fun v_56 =>
      if v_56 = 0 then
        (zgR S a0 11 3).bind fun b_58 =>
        (zgI S M a0 11 34).bind fun v_59 =>
        (zldI S M b_58 ((v_59 + 98) + (2 * x4))).bind fun v_60 =>
        F_Mo_reckonAll_b57 n E S r10 a0 x2 x3 x4 v_60 M
      else
        (zgR S a0 11 24).bind fun b_61 =>
        (zldI S M b_61 x4).bind fun v_62 =>
        F_Mo_reckonAll_b57 n E S r10 a0 x2 x3 x4 v_62 M
    else
      F_Mo_reckonAll_b369 n E S a0 x3 M
def F_Mo_reckonAll_b10 (n : Nat) (E : zE) (S : zS) : Nat × Int32 × Int32 × Int32 × zH → Option (zH) := zfix (fun r10 s => F_Mo_reckonAll_L10 n E S r10 s.1 s.2.1 s.2.2.1 s.2.2.2.1 s.2.2.2.2) n
def F_Mo_reckonAll (n : Nat) (E : zE) (S : zS) (a0 : Nat) (x1 : Int32) (x2 : Int32) (M : zH) : Option (zH) :=
  (zpZ S M a0 11 38 0).bind fun m_63 =>
  F_Mo_reckonAll_b10 n E S (a0, x2, 0, x1, m_63)
theorem K_Mo_reckonAll_b366 (n : Nat) (E : zE) (S : zS) (r10 : Nat × Int32 × Int32 × Int32 × zH → Option (zH)) (a0 : Nat) (x2 : Int32) (x3 : Int32) (x4 : Int32) (M : zH) (M' : zH) (hr10 : ∀ (a0 : Nat) (x2 : Int32) (x3 : Int32) (x4 : Int32) (M : zH), r10 (a0, x2, x3, x4, M) = some M' → zG E Y_Mo_reckonAll (none, S, M') 10 [(0, .ref a0), (2, .int x2), (3, .int x3), (4, .int x4)] [] S M 0 0) (h : F_Mo_reckonAll_b366 n E S r10 a0 x2 x3 x4 M = some M') : zG E Y_Mo_reckonAll (none, S, M') 366 [(0, .ref a0), (2, .int x2), (3, .int x3), (4, .int x4)] [] S M 0 0 := by
  unfold F_Mo_reckonAll_b366 at h
  refine zi_goto (tgt := 10) d_Mo_reckonAll_366 rfl ?_
  refine zi_lo [(0, .ref a0), (2, .int x2), (3, .int x3), (4, .int x4)] [0, 1, 2, 3] rfl ?_
  exact hr10 a0 x2 x3 x4 M h
theorem K_Mo_reckonAll_b220 (n : Nat) (E : zE) (S : zS) (r10 : Nat × Int32 × Int32 × Int32 × zH → Option (zH)) (a0 : Nat) (x2 : Int32) (x3 : Int32) (x4 : Int32) (t0 : Int64) (s1 : Int32) (u2 : Nat) (M : zH) (M' : zH) (hr10 : ∀ (a0 : Nat) (x2 : Int32) (x3 : Int32) (x4 : Int32) (M : zH), r10 (a0, x2, x3, x4, M) = some M' → zG E Y_Mo_reckonAll (none, S, M') 10 [(0, .ref a0), (2, .int x2), (3, .int x3), (4, .int x4)] [] S M 0 0) (h : F_Mo_reckonAll_b220 n E S r10 a0 x2 x3 x4 t0 s1 u2 M = some M') : zG E Y_Mo_reckonAll (none, S, M') 220 [(0, .ref a0), (2, .int x2), (3, .int x3), (4, .int x4)] [.long t0, .int s1, .ref u2] S M 0 0 := by
  unfold F_Mo_reckonAll_b220 at h
  obtain ⟨m_1, em_1, h⟩ := zbind h
  refine zo_last 221 d_Mo_reckonAll_220 em_1 rfl ?_
  refine zi_iinc 2 (x3 + 1) [(3, .int (x3 + 1)), (0, .ref a0), (2, .int x2), (4, .int x4)] d_Mo_reckonAll_221 rfl rfl (by decide) rfl ?_
  refine zi_goto (tgt := 366) d_Mo_reckonAll_224 rfl ?_
  refine zi_lo [(0, .ref a0), (2, .int x2), (3, .int (x3 + 1)), (4, .int x4)] [1, 2, 0, 3] rfl ?_
  exact K_Mo_reckonAll_b366 n E S r10 a0 x2 (x3 + 1) x4 m_1 M' hr10 h
theorem K_Mo_reckonAll_b298 (n : Nat) (E : zE) (S : zS) (r10 : Nat × Int32 × Int32 × Int32 × zH → Option (zH)) (a0 : Nat) (x2 : Int32) (x3 : Int32) (x4 : Int32) (s0 : Int32) (u1 : Nat) (M : zH) (M' : zH) (hr10 : ∀ (a0 : Nat) (x2 : Int32) (x3 : Int32) (x4 : Int32) (M : zH), r10 (a0, x2, x3, x4, M) = some M' → zG E Y_Mo_reckonAll (none, S, M') 10 [(0, .ref a0), (2, .int x2), (3, .int x3), (4, .int x4)] [] S M 0 0) (h : F_Mo_reckonAll_b298 n E S r10 a0 x2 x3 x4 s0 u1 M = some M') : zG E Y_Mo_reckonAll (none, S, M') 298 [(0, .ref a0), (2, .int x2), (3, .int x3), (4, .int x4)] [.int s0, .ref u1] S M 0 0 := by
  unfold F_Mo_reckonAll_b298 at h
  obtain ⟨m_2, em_2, h⟩ := zbind h
  refine zo_putZ 301 zkd_11 38 d_Mo_reckonAll_298 em_2 rfl rfl rfl tw_1269 rfl ?_
  refine zi_goto (tgt := 366) d_Mo_reckonAll_301 rfl ?_
  refine zi_lo [(0, .ref a0), (2, .int x2), (3, .int x3), (4, .int x4)] [0, 1, 2, 3] rfl ?_
  exact K_Mo_reckonAll_b366 n E S r10 a0 x2 x3 x4 m_2 M' hr10 h
theorem K_Mo_reckonAll_b293 (n : Nat) (E : zE) (S : zS) (r10 : Nat × Int32 × Int32 × Int32 × zH → Option (zH)) (a0 : Nat) (x2 : Int32) (x3 : Int32) (x4 : Int32) (u0 : Nat) (M : zH) (M' : zH) (hr10 : ∀ (a0 : Nat) (x2 : Int32) (x3 : Int32) (x4 : Int32) (M : zH), r10 (a0, x2, x3, x4, M) = some M' → zG E Y_Mo_reckonAll (none, S, M') 10 [(0, .ref a0), (2, .int x2), (3, .int x3), (4, .int x4)] [] S M 0 0) (h : F_Mo_reckonAll_b293 n E S r10 a0 x2 x3 x4 u0 M = some M') : zG E Y_Mo_reckonAll (none, S, M') 293 [(0, .ref a0), (2, .int x2), (3, .int x3), (4, .int x4)] [.ref u0] S M 0 0 := by
  unfold F_Mo_reckonAll_b293 at h
  refine zi_iconst 1 d_Mo_reckonAll_293 rfl ?_
  refine zi_goto (tgt := 298) d_Mo_reckonAll_294 rfl ?_
  refine zi_lo [(0, .ref a0), (2, .int x2), (3, .int x3), (4, .int x4)] [0, 1, 2, 3] rfl ?_
  exact K_Mo_reckonAll_b298 n E S r10 a0 x2 x3 x4 1 u0 M M' hr10 h
theorem K_Mo_reckonAll_b352 (n : Nat) (E : zE) (S : zS) (r10 : Nat × Int32 × Int32 × Int32 × zH → Option (zH)) (a0 : Nat) (x2 : Int32) (x3 : Int32) (x4 : Int32) (x6 : Int32) (t0 : Int64) (t1 : Int64) (M : zH) (M' : zH) (hr10 : ∀ (a0 : Nat) (x2 : Int32) (x3 : Int32) (x4 : Int32) (M : zH), r10 (a0, x2, x3, x4, M) = some M' → zG E Y_Mo_reckonAll (none, S, M') 10 [(0, .ref a0), (2, .int x2), (3, .int x3), (4, .int x4)] [] S M 0 0) (h : F_Mo_reckonAll_b352 n E S r10 a0 x2 x3 x4 x6 t0 t1 M = some M') : zG E Y_Mo_reckonAll (none, S, M') 352 [(0, .ref a0), (2, .int x2), (3, .int x3), (4, .int x4), (6, .int x6)] [.long t0, .long t1] S M 0 0 := by
  unfold F_Mo_reckonAll_b352 at h
  refine zo_lc_ne d_Mo_reckonAll_352 d_Mo_reckonAll_353 rfl 356 rfl (fun c_3 => ?_) (fun c_3 => ?_)
  · rw [if_neg c_3] at h
    refine zi_iinc 2 (x3 + (-1)) [(3, .int (x3 + (-1))), (0, .ref a0), (2, .int x2), (4, .int x4), (6, .int x6)] d_Mo_reckonAll_363 rfl rfl (by decide) rfl ?_
    refine zi_lo [(0, .ref a0), (2, .int x2), (3, .int (x3 + (-1))), (4, .int x4)] [1, 2, 0, 3] rfl ?_
    exact K_Mo_reckonAll_b366 n E S r10 a0 x2 (x3 + (-1)) x4 M M' hr10 h
  · rw [if_pos c_3] at h
    refine zi_iload 4 d_Mo_reckonAll_356 rfl ?_
    refine zi_istore [(4, .int x6), (0, .ref a0), (2, .int x2), (3, .int x3), (6, .int x6)] d_Mo_reckonAll_358 (by decide) rfl ?_
    refine zi_goto (tgt := 366) d_Mo_reckonAll_360 rfl ?_
    refine zi_lo [(0, .ref a0), (2, .int x2), (3, .int x3), (4, .int x6)] [1, 2, 3, 0] rfl ?_
    exact K_Mo_reckonAll_b366 n E S r10 a0 x2 x3 x6 M M' hr10 h
theorem K_Mo_reckonAll_b95 (n : Nat) (E : zE) (S : zS) (r10 : Nat × Int32 × Int32 × Int32 × zH → Option (zH)) (a0 : Nat) (x2 : Int32) (x3 : Int32) (x4 : Int32) (x5 : Int32) (s0 : Int32) (M : zH) (M' : zH) (hr10 : ∀ (a0 : Nat) (x2 : Int32) (x3 : Int32) (x4 : Int32) (M : zH), r10 (a0, x2, x3, x4, M) = some M' → zG E Y_Mo_reckonAll (none, S, M') 10 [(0, .ref a0), (2, .int x2), (3, .int x3), (4, .int x4)] [] S M 0 0) (h : F_Mo_reckonAll_b95 n E S r10 a0 x2 x3 x4 x5 s0 M = some M') : zG E Y_Mo_reckonAll (none, S, M') 95 [(0, .ref a0), (2, .int x2), (3, .int x3), (4, .int x4), (5, .int x5)] [.int s0] S M 0 0 := by
  unfold F_Mo_reckonAll_b95 at h
  refine zi_istore [(6, .int s0), (0, .ref a0), (2, .int x2), (3, .int x3), (4, .int x4), (5, .int x5)] d_Mo_reckonAll_95 (by decide) rfl ?_
  refine zi_iinc 4 (x4 + 1) [(4, .int (x4 + 1)), (6, .int s0), (0, .ref a0), (2, .int x2), (3, .int x3), (5, .int x5)] d_Mo_reckonAll_97 rfl rfl (by decide) rfl ?_
  refine zi_iload 5 d_Mo_reckonAll_100 rfl ?_
  refine zi_bipush 20 d_Mo_reckonAll_102 rfl ?_
  refine zi_icmp_ge (tgt := 227) d_Mo_reckonAll_104 rfl (fun c_4 => ?_) (fun c_4 => ?_)
  · rw [if_pos c_4] at h
    refine zi_iload 5 d_Mo_reckonAll_227 rfl ?_
    refine zi_bipush 28 d_Mo_reckonAll_229 rfl ?_
    refine zi_icmp_ge (tgt := 304) d_Mo_reckonAll_231 rfl (fun c_5 => ?_) (fun c_5 => ?_)
    · rw [if_pos c_5] at h
      refine zi_iload 5 d_Mo_reckonAll_304 rfl ?_
      refine zi_bipush 28 d_Mo_reckonAll_306 rfl ?_
      refine zi_icmp_ne (tgt := 332) d_Mo_reckonAll_308 rfl (fun c_6 => ?_) (fun c_6 => ?_)
      · rw [if_neg c_6] at h
        refine zi_aload_n 2 d_Mo_reckonAll_332 rfl ?_
        obtain ⟨b_10, eb_10, h⟩ := zbind h
        refine zo_getR 336 zkd_11 37 d_Mo_reckonAll_333 eb_10 rfl tw_1268 rfl ?_
        refine zi_iload_n 4 d_Mo_reckonAll_336 rfl ?_
        refine zi_iconst 1 d_Mo_reckonAll_337 rfl ?_
        refine zi_isub d_Mo_reckonAll_338 ?_
        obtain ⟨v_11, ev_11, h⟩ := zbind h
        refine zo_lald 340 d_Mo_reckonAll_339 ev_11 rfl ?_
        refine zi_iload 5 d_Mo_reckonAll_340 rfl ?_
        refine zi_bipush 29 d_Mo_reckonAll_342 rfl ?_
        refine zi_icmp_ne (tgt := 351) d_Mo_reckonAll_344 rfl (fun c_12 => ?_) (fun c_12 => ?_)
        · rw [if_neg c_12] at h
          refine zi_lconst 1 d_Mo_reckonAll_351 rfl ?_
          refine zi_lo [(0, .ref a0), (2, .int x2), (3, .int x3), (4, .int (x4 + 1)), (6, .int s0)] [2, 3, 4, 0, 1] rfl ?_
          exact K_Mo_reckonAll_b352 n E S r10 a0 x2 x3 (x4 + 1) s0 1 v_11 M M' hr10 h
        · rw [if_pos c_12] at h
          refine zi_lconst 0 d_Mo_reckonAll_347 rfl ?_
          refine zi_goto (tgt := 352) d_Mo_reckonAll_348 rfl ?_
          refine zi_lo [(0, .ref a0), (2, .int x2), (3, .int x3), (4, .int (x4 + 1)), (6, .int s0)] [2, 3, 4, 0, 1] rfl ?_
          exact K_Mo_reckonAll_b352 n E S r10 a0 x2 x3 (x4 + 1) s0 0 v_11 M M' hr10 h
      · rw [if_pos c_6] at h
        refine zi_aload_n 2 d_Mo_reckonAll_311 rfl ?_
        obtain ⟨b_7, eb_7, h⟩ := zbind h
        refine zo_getR 315 zkd_11 37 d_Mo_reckonAll_312 eb_7 rfl tw_1268 rfl ?_
        refine zi_iload_n 4 d_Mo_reckonAll_315 rfl ?_
        refine zi_iconst 1 d_Mo_reckonAll_316 rfl ?_
        refine zi_isub d_Mo_reckonAll_317 ?_
        refine zi_lconst 1 d_Mo_reckonAll_318 rfl ?_
        refine zi_aload_n 2 d_Mo_reckonAll_319 rfl ?_
        refine zo_getR 323 zkd_11 37 d_Mo_reckonAll_320 eb_7 rfl tw_1268 rfl ?_
        refine zi_iload_n 4 d_Mo_reckonAll_323 rfl ?_
        refine zi_iconst 1 d_Mo_reckonAll_324 rfl ?_
        refine zi_isub d_Mo_reckonAll_325 ?_
        obtain ⟨v_8, ev_8, h⟩ := zbind h
        refine zo_lald 327 d_Mo_reckonAll_326 ev_8 rfl ?_
        refine zi_lsub d_Mo_reckonAll_327 ?_
        obtain ⟨m_9, em_9, h⟩ := zbind h
        refine zo_last 329 d_Mo_reckonAll_328 em_9 rfl ?_
        refine zi_goto (tgt := 366) d_Mo_reckonAll_329 rfl ?_
        refine zi_lo [(0, .ref a0), (2, .int x2), (3, .int x3), (4, .int (x4 + 1))] [2, 3, 4, 0] rfl ?_
        exact K_Mo_reckonAll_b366 n E S r10 a0 x2 x3 (x4 + 1) m_9 M' hr10 h
    · rw [if_neg c_5] at h
      refine zi_iinc 4 (x3 + (-1)) [(3, .int (x3 + (-1))), (4, .int (x4 + 1)), (6, .int s0), (0, .ref a0), (2, .int x2), (5, .int x5)] d_Mo_reckonAll_234 rfl rfl (by decide) rfl ?_
      refine zi_aload_n 3 d_Mo_reckonAll_237 rfl ?_
      obtain ⟨b_13, eb_13, h⟩ := zbind h
      refine zo_getR 241 zkd_11 37 d_Mo_reckonAll_238 eb_13 rfl tw_1268 rfl ?_
      refine zi_iload_n 0 d_Mo_reckonAll_241 rfl ?_
      refine zi_iconst 1 d_Mo_reckonAll_242 rfl ?_
      refine zi_isub d_Mo_reckonAll_243 ?_
      refine zi_aload_n 3 d_Mo_reckonAll_244 rfl ?_
      refine zi_iload 5 d_Mo_reckonAll_245 rfl ?_
      refine zi_aload_n 3 d_Mo_reckonAll_247 rfl ?_
      refine zo_getR 251 zkd_11 37 d_Mo_reckonAll_248 eb_13 rfl tw_1268 rfl ?_
      refine zi_iload_n 0 d_Mo_reckonAll_251 rfl ?_
      refine zi_iconst 1 d_Mo_reckonAll_252 rfl ?_
      refine zi_isub d_Mo_reckonAll_253 ?_
      obtain ⟨v_14, ev_14, h⟩ := zbind h
      refine zo_lald 255 d_Mo_reckonAll_254 ev_14 rfl ?_
      refine zi_aload_n 3 d_Mo_reckonAll_255 rfl ?_
      refine zo_getR 259 zkd_11 37 d_Mo_reckonAll_256 eb_13 rfl tw_1268 rfl ?_
      refine zi_iload_n 0 d_Mo_reckonAll_259 rfl ?_
      obtain ⟨v_15, ev_15, h⟩ := zbind h
      refine zo_lald 261 d_Mo_reckonAll_260 ev_15 rfl ?_
      obtain ⟨q_16, eq_16, h⟩ := zbind h
      refine zo_virt (k' := 0) (n' := 0) 264 [.int x5, .long v_14, .long v_15] [.int ((x3 + (-1)) - 1), .ref b_13] [.long q_16.1, .int ((x3 + (-1)) - 1), .ref b_13] zkd_11 (zgR_s eb_13).1 (C_Mo_reckon n E S a0 x5 v_14 v_15 M q_16.1 q_16.2 eq_16) d_Mo_reckonAll_261 tw_1469 tw_1466 tw_1468 ts_44 tw_13 dd_Mo_reckon ⟨Nat.le_of_ble_eq_true rfl, Nat.le_of_ble_eq_true rfl, Nat.le_of_ble_eq_true rfl, Nat.le_of_ble_eq_true rfl⟩ (Nat.le_of_ble_eq_true rfl) rfl rfl rfl rfl ?_
      obtain ⟨m_17, em_17, h⟩ := zbind h
      refine zo_last 265 d_Mo_reckonAll_264 em_17 rfl ?_
      refine zi_aload_n 3 d_Mo_reckonAll_265 rfl ?_
      refine zi_aload_n 3 d_Mo_reckonAll_266 rfl ?_
      obtain ⟨v_18, ev_18, h⟩ := zbind h
      refine zo_getI 270 zkd_11 38 d_Mo_reckonAll_267 ev_18 rfl tw_1269 rfl ?_
      refine zi_if_ne (tgt := 293) d_Mo_reckonAll_270 rfl (fun c_19 => ?_) (fun c_19 => ?_)
      · rw [if_neg c_19] at h
        refine zi_lo [(0, .ref a0), (2, .int x2), (3, .int (x3 + (-1))), (4, .int (x4 + 1))] [3, 4, 0, 1] rfl ?_
        exact K_Mo_reckonAll_b293 n E S r10 a0 x2 (x3 + (-1)) (x4 + 1) a0 m_17 M' hr10 h
      · rw [if_pos c_19] at h
        refine zi_aload_n 3 d_Mo_reckonAll_273 rfl ?_
        refine zo_getR 277 zkd_11 37 d_Mo_reckonAll_274 eb_13 rfl tw_1268 rfl ?_
        refine zi_iload_n 0 d_Mo_reckonAll_277 rfl ?_
        refine zi_iconst 1 d_Mo_reckonAll_278 rfl ?_
        refine zi_isub d_Mo_reckonAll_279 ?_
        obtain ⟨v_20, ev_20, h⟩ := zbind h
        refine zo_lald 281 d_Mo_reckonAll_280 ev_20 rfl ?_
        refine zi_ldc2 d_Mo_reckonAll_281 tw_1470 ?_
        refine zi_ldc2 d_Mo_reckonAll_284 tw_1471 ?_
        obtain ⟨q_21, eq_21, h⟩ := zbind h
        refine zo_stat (k' := 0) (n' := 0) 290 [.long v_20, .long (-1000000000), .long 1000000000] [.ref a0] [.int (bI q_21.1), .ref a0] (C_Mo_in n E S v_20 (-1000000000) 1000000000 m_17 q_21.1 q_21.2 eq_21) d_Mo_reckonAll_287 tw_1421 tw_1419 tw_1420 tw_13 dd_Mo_in ⟨Nat.le_of_ble_eq_true rfl, Nat.le_of_ble_eq_true rfl, Nat.le_of_ble_eq_true rfl, Nat.le_of_ble_eq_true rfl⟩ (Nat.le_of_ble_eq_true rfl) rfl rfl rfl rfl ?_
        refine zo_ifneB d_Mo_reckonAll_290 rfl 293 rfl (fun c_22 => ?_) (fun c_22 => ?_)
        · rw [if_pos c_22] at h
          refine zi_iconst 0 d_Mo_reckonAll_297 rfl ?_
          refine zi_lo [(0, .ref a0), (2, .int x2), (3, .int (x3 + (-1))), (4, .int (x4 + 1))] [3, 4, 0, 1] rfl ?_
          exact K_Mo_reckonAll_b298 n E S r10 a0 x2 (x3 + (-1)) (x4 + 1) 0 a0 q_21.2 M' hr10 h
        · rw [if_neg c_22] at h
          refine zi_lo [(0, .ref a0), (2, .int x2), (3, .int (x3 + (-1))), (4, .int (x4 + 1))] [3, 4, 0, 1] rfl ?_
          exact K_Mo_reckonAll_b293 n E S r10 a0 x2 (x3 + (-1)) (x4 + 1) a0 q_21.2 M' hr10 h
  · rw [if_neg c_4] at h
    refine zi_aload_n 2 d_Mo_reckonAll_107 rfl ?_
    obtain ⟨b_23, eb_23, h⟩ := zbind h
    refine zo_getR 111 zkd_11 37 d_Mo_reckonAll_108 eb_23 rfl tw_1268 rfl ?_
    refine zi_iload_n 4 d_Mo_reckonAll_111 rfl ?_
    refine zi_iload 5 d_Mo_reckonAll_112 rfl ?_
    refine zi_if_ne (tgt := 123) d_Mo_reckonAll_114 rfl (fun c_24 => ?_) (fun c_24 => ?_)
    · rw [if_neg c_24] at h
      refine zi_aload_n 2 d_Mo_reckonAll_123 rfl ?_
      obtain ⟨v_25, ev_25, h⟩ := zbind h
      refine zo_getI 127 zkd_11 20 d_Mo_reckonAll_124 ev_25 rfl tw_1251 rfl ?_
      refine zi_if_ne (tgt := 140) d_Mo_reckonAll_127 rfl (fun c_26 => ?_) (fun c_26 => ?_)
      · rw [if_neg c_26] at h
        refine zi_iload 5 d_Mo_reckonAll_140 rfl ?_
        refine zi_iconst 5 d_Mo_reckonAll_142 rfl ?_
        refine zi_icmp_ge (tgt := 156) d_Mo_reckonAll_143 rfl (fun c_29 => ?_) (fun c_29 => ?_)
        · rw [if_pos c_29] at h
          refine zi_iload 5 d_Mo_reckonAll_156 rfl ?_
          refine zi_iconst 5 d_Mo_reckonAll_158 rfl ?_
          refine zi_icmp_ne (tgt := 176) d_Mo_reckonAll_159 rfl (fun c_30 => ?_) (fun c_30 => ?_)
          · rw [if_neg c_30] at h
            refine zi_iload 5 d_Mo_reckonAll_176 rfl ?_
            refine zi_bipush 6 d_Mo_reckonAll_178 rfl ?_
            refine zi_icmp_le (tgt := 194) d_Mo_reckonAll_180 rfl (fun c_33 => ?_) (fun c_33 => ?_)
            · rw [if_pos c_33] at h
              refine zi_aload_n 2 d_Mo_reckonAll_194 rfl ?_
              refine zi_iload 1 d_Mo_reckonAll_195 rfl ?_
              obtain ⟨q_34, eq_34, h⟩ := zbind h
              refine zo_virt (k' := 0) (n' := 0) 200 [.int s0] [.int x3, .ref b_23] [.int (bI q_34.1), .int x3, .ref b_23] zkd_11 (zgR_s eb_23).1 (C_Mo_isBucket n E S a0 s0 M q_34.1 q_34.2 eq_34) d_Mo_reckonAll_197 tw_1465 tw_1462 tw_1464 ts_43 tw_13 dd_Mo_isBucket ⟨Nat.le_of_ble_eq_true rfl, Nat.le_of_ble_eq_true rfl, Nat.le_of_ble_eq_true rfl, Nat.le_of_ble_eq_true rfl⟩ (Nat.le_of_ble_eq_true rfl) rfl rfl rfl rfl ?_
              refine zo_ifeqB d_Mo_reckonAll_200 rfl 203 rfl (fun c_35 => ?_) (fun c_35 => ?_)
              · rw [if_neg c_35] at h
                refine zi_ldc2 d_Mo_reckonAll_217 tw_1449 ?_
                refine zi_lo [(0, .ref a0), (2, .int x2), (3, .int x3), (4, .int (x4 + 1))] [2, 3, 4, 0] rfl ?_
                exact K_Mo_reckonAll_b220 n E S r10 a0 x2 x3 (x4 + 1) (-1) x3 b_23 q_34.2 M' hr10 h
              · rw [if_pos c_35] at h
                refine zi_aload_n 2 d_Mo_reckonAll_203 rfl ?_
                obtain ⟨b_36, eb_36, h⟩ := zbind h
                refine zo_getR 207 zkd_11 3 d_Mo_reckonAll_204 eb_36 rfl tw_1234 rfl ?_
                refine zi_bipush 48 d_Mo_reckonAll_207 rfl ?_
                refine zi_iload 1 d_Mo_reckonAll_209 rfl ?_
                refine zi_iadd d_Mo_reckonAll_211 ?_
                obtain ⟨v_37, ev_37, h⟩ := zbind h
                refine zo_iald 213 d_Mo_reckonAll_212 ev_37 rfl ?_
                refine zi_i2l d_Mo_reckonAll_213 ?_
                refine zi_goto (tgt := 220) d_Mo_reckonAll_214 rfl ?_
                refine zi_lo [(0, .ref a0), (2, .int x2), (3, .int x3), (4, .int (x4 + 1))] [2, 3, 4, 0] rfl ?_
                exact K_Mo_reckonAll_b220 n E S r10 a0 x2 x3 (x4 + 1) v_37.toInt64 x3 b_23 q_34.2 M' hr10 h
            · rw [if_neg c_33] at h
              refine zi_aload_n 2 d_Mo_reckonAll_183 rfl ?_
              obtain ⟨b_38, eb_38, h⟩ := zbind h
              refine zo_getR 187 zkd_11 41 d_Mo_reckonAll_184 eb_38 rfl tw_1272 rfl ?_
              refine zi_iload 1 d_Mo_reckonAll_187 rfl ?_
              obtain ⟨v_39, ev_39, h⟩ := zbind h
              refine zo_iald 190 d_Mo_reckonAll_189 ev_39 rfl ?_
              refine zi_i2l d_Mo_reckonAll_190 ?_
              refine zi_goto (tgt := 220) d_Mo_reckonAll_191 rfl ?_
              refine zi_lo [(0, .ref a0), (2, .int x2), (3, .int x3), (4, .int (x4 + 1))] [2, 3, 4, 0] rfl ?_
              exact K_Mo_reckonAll_b220 n E S r10 a0 x2 x3 (x4 + 1) v_39.toInt64 x3 b_23 M M' hr10 h
          · rw [if_pos c_30] at h
            refine zi_aload_n 2 d_Mo_reckonAll_162 rfl ?_
            obtain ⟨b_31, eb_31, h⟩ := zbind h
            refine zo_getR 166 zkd_11 3 d_Mo_reckonAll_163 eb_31 rfl tw_1234 rfl ?_
            refine zi_bipush 8 d_Mo_reckonAll_166 rfl ?_
            refine zi_iload 1 d_Mo_reckonAll_168 rfl ?_
            refine zi_iadd d_Mo_reckonAll_170 ?_
            obtain ⟨v_32, ev_32, h⟩ := zbind h
            refine zo_iald 172 d_Mo_reckonAll_171 ev_32 rfl ?_
            refine zi_i2l d_Mo_reckonAll_172 ?_
            refine zi_goto (tgt := 220) d_Mo_reckonAll_173 rfl ?_
            refine zi_lo [(0, .ref a0), (2, .int x2), (3, .int x3), (4, .int (x4 + 1))] [2, 3, 4, 0] rfl ?_
            exact K_Mo_reckonAll_b220 n E S r10 a0 x2 x3 (x4 + 1) v_32.toInt64 x3 b_23 M M' hr10 h
        · rw [if_neg c_29] at h
          refine zi_aload_n 2 d_Mo_reckonAll_146 rfl ?_
          obtain ⟨b_40, eb_40, h⟩ := zbind h
          refine zo_getR 150 zkd_11 36 d_Mo_reckonAll_147 eb_40 rfl tw_1267 rfl ?_
          refine zi_iload 5 d_Mo_reckonAll_150 rfl ?_
          obtain ⟨v_41, ev_41, h⟩ := zbind h
          refine zo_lald 153 d_Mo_reckonAll_152 ev_41 rfl ?_
          refine zi_goto (tgt := 220) d_Mo_reckonAll_153 rfl ?_
          refine zi_lo [(0, .ref a0), (2, .int x2), (3, .int x3), (4, .int (x4 + 1))] [2, 3, 4, 0] rfl ?_
          exact K_Mo_reckonAll_b220 n E S r10 a0 x2 x3 (x4 + 1) v_41 x3 b_23 M M' hr10 h
      · rw [if_pos c_26] at h
        refine zi_aload_n 2 d_Mo_reckonAll_130 rfl ?_
        obtain ⟨b_27, eb_27, h⟩ := zbind h
        refine zo_getR 134 zkd_11 35 d_Mo_reckonAll_131 eb_27 rfl tw_1266 rfl ?_
        refine zi_iload 5 d_Mo_reckonAll_134 rfl ?_
        obtain ⟨v_28, ev_28, h⟩ := zbind h
        refine zo_lald 137 d_Mo_reckonAll_136 ev_28 rfl ?_
        refine zi_goto (tgt := 220) d_Mo_reckonAll_137 rfl ?_
        refine zi_lo [(0, .ref a0), (2, .int x2), (3, .int x3), (4, .int (x4 + 1))] [2, 3, 4, 0] rfl ?_
        exact K_Mo_reckonAll_b220 n E S r10 a0 x2 x3 (x4 + 1) v_28 x3 b_23 M M' hr10 h
    · rw [if_pos c_24] at h
      refine zi_iload 1 d_Mo_reckonAll_117 rfl ?_
      refine zi_i2l d_Mo_reckonAll_119 ?_
      refine zi_goto (tgt := 220) d_Mo_reckonAll_120 rfl ?_
      refine zi_lo [(0, .ref a0), (2, .int x2), (3, .int x3), (4, .int (x4 + 1))] [2, 3, 4, 0] rfl ?_
      exact K_Mo_reckonAll_b220 n E S r10 a0 x2 x3 (x4 + 1) s0.toInt64 x3 b_23 M M' hr10 h
theorem K_Mo_reckonAll_b57 (n : Nat) (E : zE) (S : zS) (r10 : Nat × Int32 × Int32 × Int32 × zH → Option (zH)) (a0 : Nat) (x2 : Int32) (x3 : Int32) (x4 : Int32) (s0 : Int32) (M : zH) (M' : zH) (hr10 : ∀ (a0 : Nat) (x2 : Int32) (x3 : Int32) (x4 : Int32) (M : zH), r10 (a0, x2, x3, x4, M) = some M' → zG E Y_Mo_reckonAll (none, S, M') 10 [(0, .ref a0), (2, .int x2), (3, .int x3), (4, .int x4)] [] S M 0 0) (h : F_Mo_reckonAll_b57 n E S r10 a0 x2 x3 x4 s0 M = some M') : zG E Y_Mo_reckonAll (none, S, M') 57 [(0, .ref a0), (2, .int x2), (3, .int x3), (4, .int x4)] [.int s0] S M 0 0 := by
  unfold F_Mo_reckonAll_b57 at h
  refine zi_istore [(5, .int s0), (0, .ref a0), (2, .int x2), (3, .int x3), (4, .int x4)] d_Mo_reckonAll_57 (by decide) rfl ?_
  refine zi_aload_n 1 d_Mo_reckonAll_59 rfl ?_
  obtain ⟨v_42, ev_42, h⟩ := zbind h
  refine zo_getI 63 zkd_11 20 d_Mo_reckonAll_60 ev_42 rfl tw_1251 rfl ?_
  refine zi_if_eq (tgt := 76) d_Mo_reckonAll_63 rfl (fun c_43 => ?_) (fun c_43 => ?_)
  · rw [if_pos c_43] at h
    refine zi_aload_n 1 d_Mo_reckonAll_76 rfl ?_
    obtain ⟨b_44, eb_44, h⟩ := zbind h
    refine zo_getR 80 zkd_11 3 d_Mo_reckonAll_77 eb_44 rfl tw_1234 rfl ?_
    refine zi_aload_n 1 d_Mo_reckonAll_80 rfl ?_
    obtain ⟨v_45, ev_45, h⟩ := zbind h
    refine zo_getI 84 zkd_11 34 d_Mo_reckonAll_81 ev_45 rfl tw_1265 rfl ?_
    refine zi_bipush 98 d_Mo_reckonAll_84 rfl ?_
    refine zi_iadd d_Mo_reckonAll_86 ?_
    refine zi_iconst 2 d_Mo_reckonAll_87 rfl ?_
    refine zi_iload 4 d_Mo_reckonAll_88 rfl ?_
    refine zi_imul d_Mo_reckonAll_90 ?_
    refine zi_iadd d_Mo_reckonAll_91 ?_
    refine zi_iconst 1 d_Mo_reckonAll_92 rfl ?_
    refine zi_iadd d_Mo_reckonAll_93 ?_
    obtain ⟨v_46, ev_46, h⟩ := zbind h
    refine zo_iald 95 d_Mo_reckonAll_94 ev_46 rfl ?_
    refine zi_lo [(0, .ref a0), (2, .int x2), (3, .int x3), (4, .int x4), (5, .int s0)] [1, 2, 3, 4, 0] rfl ?_
    exact K_Mo_reckonAll_b95 n E S r10 a0 x2 x3 x4 s0 v_46 M M' hr10 h
  · rw [if_neg c_43] at h
    refine zi_aload_n 1 d_Mo_reckonAll_66 rfl ?_
    obtain ⟨b_47, eb_47, h⟩ := zbind h
    refine zo_getR 70 zkd_11 25 d_Mo_reckonAll_67 eb_47 rfl tw_1256 rfl ?_
    refine zi_iload 4 d_Mo_reckonAll_70 rfl ?_
    obtain ⟨v_48, ev_48, h⟩ := zbind h
    refine zo_iald 73 d_Mo_reckonAll_72 ev_48 rfl ?_
    refine zi_goto (tgt := 95) d_Mo_reckonAll_73 rfl ?_
    refine zi_lo [(0, .ref a0), (2, .int x2), (3, .int x3), (4, .int x4), (5, .int s0)] [1, 2, 3, 4, 0] rfl ?_
    exact K_Mo_reckonAll_b95 n E S r10 a0 x2 x3 x4 s0 v_48 M M' hr10 h
theorem K_Mo_reckonAll_b384 (n : Nat) (E : zE) (S : zS) (t0 : Int64) (u1 : Nat) (M : zH) (M' : zH)  (h : F_Mo_reckonAll_b384 n E S t0 u1 M = some M') : zG E Y_Mo_reckonAll (none, S, M') 384 [] [.long t0, .ref u1] S M 0 0 := by
  unfold F_Mo_reckonAll_b384 at h
  obtain ⟨m_49, em_49, h⟩ := zbind h
  refine zo_putJ 387 zkd_11 39 d_Mo_reckonAll_384 em_49 rfl rfl rfl tw_1270 rfl ?_
  cases h
  exact zo_ret d_Mo_reckonAll_387 (Nat.le_of_ble_eq_true rfl) (Nat.le_of_ble_eq_true rfl) rfl
theorem K_Mo_reckonAll_b369 (n : Nat) (E : zE) (S : zS) (a0 : Nat) (x3 : Int32) (M : zH) (M' : zH)  (h : F_Mo_reckonAll_b369 n E S a0 x3 M = some M') : zG E Y_Mo_reckonAll (none, S, M') 369 [(0, .ref a0), (3, .int x3)] [] S M 0 0 := by
  unfold F_Mo_reckonAll_b369 at h
  refine zi_aload_n 0 d_Mo_reckonAll_369 rfl ?_
  refine zi_iload_n 1 d_Mo_reckonAll_370 rfl ?_
  refine zi_if_le (tgt := 383) d_Mo_reckonAll_371 rfl (fun c_50 => ?_) (fun c_50 => ?_)
  · rw [if_pos c_50] at h
    refine zi_lconst 0 d_Mo_reckonAll_383 rfl ?_
    refine zi_lo [] [] rfl ?_
    exact K_Mo_reckonAll_b384 n E S 0 a0 M M'  h
  · rw [if_neg c_50] at h
    refine zi_aload_n 0 d_Mo_reckonAll_374 rfl ?_
    obtain ⟨b_51, eb_51, h⟩ := zbind h
    refine zo_getR 378 zkd_11 37 d_Mo_reckonAll_375 eb_51 rfl tw_1268 rfl ?_
    refine zi_iconst 0 d_Mo_reckonAll_378 rfl ?_
    obtain ⟨v_52, ev_52, h⟩ := zbind h
    refine zo_lald 380 d_Mo_reckonAll_379 ev_52 rfl ?_
    refine zi_goto (tgt := 384) d_Mo_reckonAll_380 rfl ?_
    refine zi_lo [] [] rfl ?_
    exact K_Mo_reckonAll_b384 n E S v_52 a0 M M'  h
theorem K_Mo_reckonAll_L10 (n : Nat) (E : zE) (S : zS) (r10 : Nat × Int32 × Int32 × Int32 × zH → Option (zH)) (a0 : Nat) (x2 : Int32) (x3 : Int32) (x4 : Int32) (M : zH) (M' : zH) (hr10 : ∀ (a0 : Nat) (x2 : Int32) (x3 : Int32) (x4 : Int32) (M : zH), r10 (a0, x2, x3, x4, M) = some M' → zG E Y_Mo_reckonAll (none, S, M') 10 [(0, .ref a0), (2, .int x2), (3, .int x3), (4, .int x4)] [] S M 0 0) (h : F_Mo_reckonAll_L10 n E S r10 a0 x2 x3 x4 M = some M') : zG E Y_Mo_reckonAll (none, S, M') 10 [(0, .ref a0), (2, .int x2), (3, .int x3), (4, .int x4)] [] S M 0 0 := by
  unfold F_Mo_reckonAll_L10 at h
  refine zi_iload 3 d_Mo_reckonAll_10 rfl ?_
  refine zi_iload_n 1 d_Mo_reckonAll_12 rfl ?_
  refine zi_icmp_ge (tgt := 369) d_Mo_reckonAll_13 rfl (fun c_53 => ?_) (fun c_53 => ?_)
  · rw [if_pos c_53] at h
    refine zi_lo [(0, .ref a0), (3, .int x3)] [0, 2] rfl ?_
    exact K_Mo_reckonAll_b369 n E S a0 x3 M M'  h
  · rw [if_neg c_53] at h
    refine zi_aload_n 0 d_Mo_reckonAll_16 rfl ?_
    obtain ⟨v_54, ev_54, h⟩ := zbind h
    refine zo_getI 20 zkd_11 38 d_Mo_reckonAll_17 ev_54 rfl tw_1269 rfl ?_
    refine zi_if_ne (tgt := 369) d_Mo_reckonAll_20 rfl (fun c_55 => ?_) (fun c_55 => ?_)
    · rw [if_neg c_55] at h
      refine zi_lo [(0, .ref a0), (3, .int x3)] [0, 2] rfl ?_
      exact K_Mo_reckonAll_b369 n E S a0 x3 M M'  h
    · rw [if_pos c_55] at h
      refine zi_aload_n 0 d_Mo_reckonAll_23 rfl ?_
      obtain ⟨v_56, ev_56, h⟩ := zbind h
      refine zo_getI 27 zkd_11 20 d_Mo_reckonAll_24 ev_56 rfl tw_1251 rfl ?_
      refine zi_if_eq (tgt := 40) d_Mo_reckonAll_27 rfl (fun c_57 => ?_) (fun c_57 => ?_)
      · rw [if_pos c_57] at h
        refine zi_aload_n 0 d_Mo_reckonAll_40 rfl ?_
        obtain ⟨b_58, eb_58, h⟩ := zbind h
        refine zo_getR 44 zkd_11 3 d_Mo_reckonAll_41 eb_58 rfl tw_1234 rfl ?_
        refine zi_aload_n 0 d_Mo_reckonAll_44 rfl ?_
        obtain ⟨v_59, ev_59, h⟩ := zbind h
        refine zo_getI 48 zkd_11 34 d_Mo_reckonAll_45 ev_59 rfl tw_1265 rfl ?_
        refine zi_bipush 98 d_Mo_reckonAll_48 rfl ?_
        refine zi_iadd d_Mo_reckonAll_50 ?_
        refine zi_iconst 2 d_Mo_reckonAll_51 rfl ?_
        refine zi_iload 3 d_Mo_reckonAll_52 rfl ?_
        refine zi_imul d_Mo_reckonAll_54 ?_
        refine zi_iadd d_Mo_reckonAll_55 ?_
        obtain ⟨v_60, ev_60, h⟩ := zbind h
        refine zo_iald 57 d_Mo_reckonAll_56 ev_60 rfl ?_
        refine zi_lo [(0, .ref a0), (2, .int x2), (3, .int x3), (4, .int x4)] [0, 1, 2, 3] rfl ?_
        exact K_Mo_reckonAll_b57 n E S r10 a0 x2 x3 x4 v_60 M M' hr10 h
      · rw [if_neg c_57] at h
        refine zi_aload_n 0 d_Mo_reckonAll_30 rfl ?_
        obtain ⟨b_61, eb_61, h⟩ := zbind h
        refine zo_getR 34 zkd_11 24 d_Mo_reckonAll_31 eb_61 rfl tw_1255 rfl ?_
        refine zi_iload 3 d_Mo_reckonAll_34 rfl ?_
        obtain ⟨v_62, ev_62, h⟩ := zbind h
        refine zo_iald 37 d_Mo_reckonAll_36 ev_62 rfl ?_
        refine zi_goto (tgt := 57) d_Mo_reckonAll_37 rfl ?_
        refine zi_lo [(0, .ref a0), (2, .int x2), (3, .int x3), (4, .int x4)] [0, 1, 2, 3] rfl ?_
        exact K_Mo_reckonAll_b57 n E S r10 a0 x2 x3 x4 v_62 M M' hr10 h
theorem K_Mo_reckonAll_b10 (n : Nat) (E : zE) (S : zS) (a0 : Nat) (x2 : Int32) (x3 : Int32) (x4 : Int32) (M : zH) (M' : zH)  (h : F_Mo_reckonAll_b10 n E S (a0, x2, x3, x4, M) = some M') : zG E Y_Mo_reckonAll (none, S, M') 10 [(0, .ref a0), (2, .int x2), (3, .int x3), (4, .int x4)] [] S M 0 0 := by
  have key : ∀ (k : Nat) (a0 : Nat) (x2 : Int32) (x3 : Int32) (x4 : Int32) (M : zH), zfix (fun r10 s => F_Mo_reckonAll_L10 n E S r10 s.1 s.2.1 s.2.2.1 s.2.2.2.1 s.2.2.2.2) k (a0, x2, x3, x4, M) = some M' → zG E Y_Mo_reckonAll (none, S, M') 10 [(0, .ref a0), (2, .int x2), (3, .int x3), (4, .int x4)] [] S M 0 0 := by
    intro k
    induction k with
    | zero => intro a0 x2 x3 x4 M h; cases h
    | succ k ih => intro a0 x2 x3 x4 M h; exact K_Mo_reckonAll_L10 n E S _ a0 x2 x3 x4 M M'  (fun a0 x2 x3 x4 M h => ih a0 x2 x3 x4 M h) h
  exact key n a0 x2 x3 x4 M h
theorem K_Mo_reckonAll (n : Nat) (E : zE) (S : zS) (a0 : Nat) (x1 : Int32) (x2 : Int32) (M : zH) (M' : zH)  (h : F_Mo_reckonAll n E S a0 x1 x2 M = some M') : zG E Y_Mo_reckonAll (none, S, M') 0 [(0, .ref a0), (1, .int x1), (2, .int x2)] [] S M 0 0 := by
  unfold F_Mo_reckonAll at h
  refine zi_aload_n 0 d_Mo_reckonAll_0 rfl ?_
  refine zi_iconst 0 d_Mo_reckonAll_1 rfl ?_
  obtain ⟨m_63, em_63, h⟩ := zbind h
  refine zo_putZ 5 zkd_11 38 d_Mo_reckonAll_2 em_63 rfl rfl rfl tw_1269 rfl ?_
  refine zi_iconst 0 d_Mo_reckonAll_5 rfl ?_
  refine zi_istore_n [(3, .int 0), (0, .ref a0), (1, .int x1), (2, .int x2)] d_Mo_reckonAll_6 (by decide) rfl ?_
  refine zi_iload_n 2 d_Mo_reckonAll_7 rfl ?_
  refine zi_istore [(4, .int x1), (3, .int 0), (0, .ref a0), (1, .int x1), (2, .int x2)] d_Mo_reckonAll_8 (by decide) rfl ?_
  refine zi_lo [(0, .ref a0), (2, .int x2), (3, .int 0), (4, .int x1)] [2, 4, 1, 0] rfl ?_
  exact K_Mo_reckonAll_b10 n E S a0 x2 0 x1 m_63 M'  h
theorem C_Mo_reckonAll (n : Nat) (E : zE) (S : zS) (a0 : Nat) (x1 : Int32) (x2 : Int32) (M : zH) (M' : zH) (h : F_Mo_reckonAll n E S a0 x1 x2 M = some M') : zC E Y_Mo_reckonAll [.ref a0, .int x1, .int x2] S M (none, S, M') :=
  zC.of (Or.inl (show plainName "NightColanderModel" = true by decide)) (Nat.le_of_ble_eq_true rfl) (trivial) (K_Mo_reckonAll n E S a0 x1 x2 M M' h)
