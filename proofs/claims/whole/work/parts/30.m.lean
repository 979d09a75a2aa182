/-! METHODS (printed by gen/build.py): Pa_sharesOf Ji_bitCount Pa_findCleared NC_cleared Pa_longestDrought NC_drought NC_luck NC_together NC_settled Ja_fillJ -/
theorem d_Pa_sharesOf_0 : decode (yB Y_Pa_sharesOf) 0 = .ok (.iconst 0, 1) := by decide +kernel
theorem d_Pa_sharesOf_1 : decode (yB Y_Pa_sharesOf) 1 = .ok (.istore_n 2, 1) := by decide +kernel
theorem d_Pa_sharesOf_2 : decode (yB Y_Pa_sharesOf) 2 = .ok (.iconst 0, 1) := by decide +kernel
theorem d_Pa_sharesOf_3 : decode (yB Y_Pa_sharesOf) 3 = .ok (.istore_n 3, 1) := by decide +kernel
theorem d_Pa_sharesOf_4 : decode (yB Y_Pa_sharesOf) 4 = .ok (.iload_n 3, 1) := by decide +kernel
theorem d_Pa_sharesOf_5 : decode (yB Y_Pa_sharesOf) 5 = .ok (.iconst 4, 1) := by decide +kernel
theorem d_Pa_sharesOf_6 : decode (yB Y_Pa_sharesOf) 6 = .ok (.if_icmp .ge 30, 3) := by decide +kernel
theorem d_Pa_sharesOf_9 : decode (yB Y_Pa_sharesOf) 9 = .ok (.iload_n 2, 1) := by decide +kernel
theorem d_Pa_sharesOf_10 : decode (yB Y_Pa_sharesOf) 10 = .ok (.iload_n 1, 1) := by decide +kernel
theorem d_Pa_sharesOf_11 : decode (yB Y_Pa_sharesOf) 11 = .ok (.iconst 1, 1) := by decide +kernel
theorem d_Pa_sharesOf_12 : decode (yB Y_Pa_sharesOf) 12 = .ok (.iload_n 3, 1) := by decide +kernel
theorem d_Pa_sharesOf_13 : decode (yB Y_Pa_sharesOf) 13 = .ok (.ishl, 1) := by decide +kernel
theorem d_Pa_sharesOf_14 : decode (yB Y_Pa_sharesOf) 14 = .ok (.iand, 1) := by decide +kernel
theorem d_Pa_sharesOf_15 : decode (yB Y_Pa_sharesOf) 15 = .ok (.ifCond .eq 12, 3) := by decide +kernel
theorem d_Pa_sharesOf_18 : decode (yB Y_Pa_sharesOf) 18 = .ok (.aload_n 0, 1) := by decide +kernel
theorem d_Pa_sharesOf_19 : decode (yB Y_Pa_sharesOf) 19 = .ok (.getfield 18, 3) := by decide +kernel
theorem d_Pa_sharesOf_22 : decode (yB Y_Pa_sharesOf) 22 = .ok (.iload_n 3, 1) := by decide +kernel
theorem d_Pa_sharesOf_23 : decode (yB Y_Pa_sharesOf) 23 = .ok (.iaload, 1) := by decide +kernel
theorem d_Pa_sharesOf_24 : decode (yB Y_Pa_sharesOf) 24 = .ok (.goto 4, 3) := by decide +kernel
theorem d_Pa_sharesOf_27 : decode (yB Y_Pa_sharesOf) 27 = .ok (.iconst 0, 1) := by decide +kernel
theorem d_Pa_sharesOf_28 : decode (yB Y_Pa_sharesOf) 28 = .ok (.iadd, 1) := by decide +kernel
theorem d_Pa_sharesOf_29 : decode (yB Y_Pa_sharesOf) 29 = .ok (.istore_n 2, 1) := by decide +kernel
theorem d_Pa_sharesOf_30 : decode (yB Y_Pa_sharesOf) 30 = .ok (.iinc 3 1, 3) := by decide +kernel
theorem d_Pa_sharesOf_33 : decode (yB Y_Pa_sharesOf) 33 = .ok (.goto (-29), 3) := by decide +kernel
theorem d_Pa_sharesOf_36 : decode (yB Y_Pa_sharesOf) 36 = .ok (.iload_n 2, 1) := by decide +kernel
theorem d_Pa_sharesOf_37 : decode (yB Y_Pa_sharesOf) 37 = .ok (.ireturn, 1) := by decide +kernel
def F_Pa_sharesOf_b28 (n : Nat) (E : zE) (S : zS) (r4 : Nat × Int32 × Int32 × Int32 × zH → Option (Int32 × zH)) (a0 : Nat) (x1 : Int32) (x3 : Int32) (s0 : Int32) (s1 : Int32) (M : zH) : Option (Int32 × zH) :=
  r4 (a0, x1, s1 + s0, x3 + 1, M)
def F_Pa_sharesOf_L4 (n : Nat) (E : zE) (S : zS) (r4 : Nat × Int32 × Int32 × Int32 × zH → Option (Int32 × zH)) (a0 : Nat) (x1 : Int32) (x2 : Int32) (x3 : Int32) (M : zH) : Option (Int32 × zH) :=
  if 4 ≤ x3 then
    some (x2, M)
  else
    if (x1 &&& ((1 : Int32) <<< (x3 &&& (31 : Int32)))) = 0 then
      F_Pa_sharesOf_b28 n E S r4 a0 x1 x3 0 x2 M
    else
      (zgR S a0 4 2).bind fun b3 =>
      (zldI S M b3 x3).bind fun v4 =>
      F_Pa_sharesOf_b28 n E S r4 a0 x1 x3 v4 x2 M
def F_Pa_sharesOf_b4 (n : Nat) (E : zE) (S : zS) : Nat × Int32 × Int32 × Int32 × zH → Option (Int32 × zH) := zfix (fun r4 s => F_Pa_sharesOf_L4 n E S r4 s.1 s.2.1 s.2.2.1 s.2.2.2.1 s.2.2.2.2) n
def F_Pa_sharesOf (n : Nat) (E : zE) (S : zS) (a0 : Nat) (x1 : Int32) (M : zH) : Option (Int32 × zH) :=
  F_Pa_sharesOf_b4 n E S (a0, x1, 0, 0, M)
theorem K_Pa_sharesOf_b28 (n : Nat) (E : zE) (S : zS) (r4 : Nat × Int32 × Int32 × Int32 × zH → Option (Int32 × zH)) (a0 : Nat) (x1 : Int32) (x3 : Int32) (s0 : Int32) (s1 : Int32) (M : zH) (r : Int32) (M' : zH) (hr4 : ∀ (a0 : Nat) (x1 : Int32) (x2 : Int32) (x3 : Int32) (M : zH), r4 (a0, x1, x2, x3, M) = some (r, M') → zG E Y_Pa_sharesOf (some (.int r), S, M') 4 [(0, .ref a0), (1, .int x1), (2, .int x2), (3, .int x3)] [] S M 0 0) (h : F_Pa_sharesOf_b28 n E S r4 a0 x1 x3 s0 s1 M = some (r, M')) : zG E Y_Pa_sharesOf (some (.int r), S, M') 28 [(0, .ref a0), (1, .int x1), (3, .int x3)] [.int s0, .int s1] S M 0 0 := by
  unfold F_Pa_sharesOf_b28 at h
  refine zi_iadd d_Pa_sharesOf_28 ?_
  refine zi_istore_n [(2, .int (s1 + s0)), (0, .ref a0), (1, .int x1), (3, .int x3)] d_Pa_sharesOf_29 (by decide) rfl ?_
  refine zi_iinc 3 (x3 + 1) [(3, .int (x3 + 1)), (2, .int (s1 + s0)), (0, .ref a0), (1, .int x1)] d_Pa_sharesOf_30 rfl rfl (by decide) rfl ?_
  refine zi_goto (tgt := 4) d_Pa_sharesOf_33 rfl ?_
  refine zi_lo [(0, .ref a0), (1, .int x1), (2, .int (s1 + s0)), (3, .int (x3 + 1))] [2, 3, 1, 0] rfl ?_
  exact hr4 a0 x1 (s1 + s0) (x3 + 1) M h
theorem K_Pa_sharesOf_L4 (n : Nat) (E : zE) (S : zS) (r4 : Nat × Int32 × Int32 × Int32 × zH → Option (Int32 × zH)) (a0 : Nat) (x1 : Int32) (x2 : Int32) (x3 : Int32) (M : zH) (r : Int32) (M' : zH) (hr4 : ∀ (a0 : Nat) (x1 : Int32) (x2 : Int32) (x3 : Int32) (M : zH), r4 (a0, x1, x2, x3, M) = some (r, M') → zG E Y_Pa_sharesOf (some (.int r), S, M') 4 [(0, .ref a0), (1, .int x1), (2, .int x2), (3, .int x3)] [] S M 0 0) (h : F_Pa_sharesOf_L4 n E S r4 a0 x1 x2 x3 M = some (r, M')) : zG E Y_Pa_sharesOf (some (.int r), S, M') 4 [(0, .ref a0), (1, .int x1), (2, .int x2), (3, .int x3)] [] S M 0 0 := by
  unfold F_Pa_sharesOf_L4 at h
  refine zi_iload_n 3 d_Pa_sharesOf_4 rfl ?_
  refine zi_iconst 4 d_Pa_sharesOf_5 rfl ?_
  refine zi_icmp_ge (tgt := 36) d_Pa_sharesOf_6 rfl (fun c1 => ?_) (fun c1 => ?_)
  · rw [if_pos c1] at h
    refine zi_iload_n 2 d_Pa_sharesOf_36 rfl ?_
    cases h
    exact zo_ret d_Pa_sharesOf_37 (Nat.le_of_ble_eq_true rfl) (Nat.le_of_ble_eq_true rfl) rfl
  · rw [if_neg c1] at h
    refine zi_iload_n 2 d_Pa_sharesOf_9 rfl ?_
    refine zi_iload_n 1 d_Pa_sharesOf_10 rfl ?_
    refine zi_iconst 1 d_Pa_sharesOf_11 rfl ?_
    refine zi_iload_n 3 d_Pa_sharesOf_12 rfl ?_
    refine zi_ishl d_Pa_sharesOf_13 ?_
    refine zi_iand d_Pa_sharesOf_14 ?_
    refine zi_if_eq (tgt := 27) d_Pa_sharesOf_15 rfl (fun c2 => ?_) (fun c2 => ?_)
    · rw [if_pos c2] at h
      refine zi_iconst 0 d_Pa_sharesOf_27 rfl ?_
      refine zi_lo [(0, .ref a0), (1, .int x1), (3, .int x3)] [0, 1, 3] rfl ?_
      exact K_Pa_sharesOf_b28 n E S r4 a0 x1 x3 0 x2 M r M' hr4 h
    · rw [if_neg c2] at h
      refine zi_aload_n 0 d_Pa_sharesOf_18 rfl ?_
      obtain ⟨b3, eb3, h⟩ := zbind h
      refine zo_getR 22 zkd_4 2 d_Pa_sharesOf_19 eb3 rfl tw_300 rfl ?_
      refine zi_iload_n 3 d_Pa_sharesOf_22 rfl ?_
      obtain ⟨v4, ev4, h⟩ := zbind h
      refine zo_iald 24 d_Pa_sharesOf_23 ev4 rfl ?_
      refine zi_goto (tgt := 28) d_Pa_sharesOf_24 rfl ?_
      refine zi_lo [(0, .ref a0), (1, .int x1), (3, .int x3)] [0, 1, 3] rfl ?_
      exact K_Pa_sharesOf_b28 n E S r4 a0 x1 x3 v4 x2 M r M' hr4 h
theorem K_Pa_sharesOf_b4 (n : Nat) (E : zE) (S : zS) (a0 : Nat) (x1 : Int32) (x2 : Int32) (x3 : Int32) (M : zH) (r : Int32) (M' : zH)  (h : F_Pa_sharesOf_b4 n E S (a0, x1, x2, x3, M) = some (r, M')) : zG E Y_Pa_sharesOf (some (.int r), S, M') 4 [(0, .ref a0), (1, .int x1), (2, .int x2), (3, .int x3)] [] S M 0 0 := by
  have key : ∀ (k : Nat) (a0 : Nat) (x1 : Int32) (x2 : Int32) (x3 : Int32) (M : zH), zfix (fun r4 s => F_Pa_sharesOf_L4 n E S r4 s.1 s.2.1 s.2.2.1 s.2.2.2.1 s.2.2.2.2) k (a0, x1, x2, x3, M) = some (r, M') → zG E Y_Pa_sharesOf (some (.int r), S, M') 4 [(0, .ref a0), (1, .int x1), (2, .int x2), (3, .int x3)] [] S M 0 0 := by
    intro k
    induction k with
    | zero => intro a0 x1 x2 x3 M h; cases h
    | succ k ih => intro a0 x1 x2 x3 M h; exact K_Pa_sharesOf_L4 n E S _ a0 x1 x2 x3 M r M'  (fun a0 x1 x2 x3 M h => ih a0 x1 x2 x3 M h) h
  exact key n a0 x1 x2 x3 M h
theorem K_Pa_sharesOf (n : Nat) (E : zE) (S : zS) (a0 : Nat) (x1 : Int32) (M : zH) (r : Int32) (M' : zH)  (h : F_Pa_sharesOf n E S a0 x1 M = some (r, M')) : zG E Y_Pa_sharesOf (some (.int r), S, M') 0 [(0, .ref a0), (1, .int x1)] [] S M 0 0 := by
  unfold F_Pa_sharesOf at h
  refine zi_iconst 0 d_Pa_sharesOf_0 rfl ?_
  refine zi_istore_n [(2, .int 0), (0, .ref a0), (1, .int x1)] d_Pa_sharesOf_1 (by decide) rfl ?_
  refine zi_iconst 0 d_Pa_sharesOf_2 rfl ?_
  refine zi_istore_n [(3, .int 0), (2, .int 0), (0, .ref a0), (1, .int x1)] d_Pa_sharesOf_3 (by decide) rfl ?_
  refine zi_lo [(0, .ref a0), (1, .int x1), (2, .int 0), (3, .int 0)] [2, 3, 1, 0] rfl ?_
  exact K_Pa_sharesOf_b4 n E S a0 x1 0 0 M r M'  h
theorem C_Pa_sharesOf (n : Nat) (E : zE) (S : zS) (a0 : Nat) (x1 : Int32) (M : zH) (r : Int32) (M' : zH) (h : F_Pa_sharesOf n E S a0 x1 M = some (r, M')) : zC E Y_Pa_sharesOf [.ref a0, .int x1] S M (some (.int r), S, M') :=
  zC.of (Or.inl (show plainName "NightColander$Paper" = true by decide)) (Nat.le_of_ble_eq_true rfl) (trivial) (K_Pa_sharesOf n E S a0 x1 M r M' h)
theorem d_Ji_bitCount_0 : decode (yB Y_Ji_bitCount) 0 = .ok (.iload_n 0, 1) := by decide +kernel
theorem d_Ji_bitCount_1 : decode (yB Y_Ji_bitCount) 1 = .ok (.iload_n 0, 1) := by decide +kernel
theorem d_Ji_bitCount_2 : decode (yB Y_Ji_bitCount) 2 = .ok (.iconst 1, 1) := by decide +kernel
theorem d_Ji_bitCount_3 : decode (yB Y_Ji_bitCount) 3 = .ok (.iushr, 1) := by decide +kernel
theorem d_Ji_bitCount_4 : decode (yB Y_Ji_bitCount) 4 = .ok (.ldc_w 265, 3) := by decide +kernel
theorem d_Ji_bitCount_7 : decode (yB Y_Ji_bitCount) 7 = .ok (.iand, 1) := by decide +kernel
theorem d_Ji_bitCount_8 : decode (yB Y_Ji_bitCount) 8 = .ok (.isub, 1) := by decide +kernel
theorem d_Ji_bitCount_9 : decode (yB Y_Ji_bitCount) 9 = .ok (.istore_n 0, 1) := by decide +kernel
theorem d_Ji_bitCount_10 : decode (yB Y_Ji_bitCount) 10 = .ok (.iload_n 0, 1) := by decide +kernel
theorem d_Ji_bitCount_11 : decode (yB Y_Ji_bitCount) 11 = .ok (.ldc_w 266, 3) := by decide +kernel
theorem d_Ji_bitCount_14 : decode (yB Y_Ji_bitCount) 14 = .ok (.iand, 1) := by decide +kernel
theorem d_Ji_bitCount_15 : decode (yB Y_Ji_bitCount) 15 = .ok (.iload_n 0, 1) := by decide +kernel
theorem d_Ji_bitCount_16 : decode (yB Y_Ji_bitCount) 16 = .ok (.iconst 2, 1) := by decide +kernel
theorem d_Ji_bitCount_17 : decode (yB Y_Ji_bitCount) 17 = .ok (.iushr, 1) := by decide +kernel
theorem d_Ji_bitCount_18 : decode (yB Y_Ji_bitCount) 18 = .ok (.ldc_w 266, 3) := by decide +kernel
theorem d_Ji_bitCount_21 : decode (yB Y_Ji_bitCount) 21 = .ok (.iand, 1) := by decide +kernel
theorem d_Ji_bitCount_22 : decode (yB Y_Ji_bitCount) 22 = .ok (.iadd, 1) := by decide +kernel
theorem d_Ji_bitCount_23 : decode (yB Y_Ji_bitCount) 23 = .ok (.istore_n 0, 1) := by decide +kernel
theorem d_Ji_bitCount_24 : decode (yB Y_Ji_bitCount) 24 = .ok (.iload_n 0, 1) := by decide +kernel
theorem d_Ji_bitCount_25 : decode (yB Y_Ji_bitCount) 25 = .ok (.iload_n 0, 1) := by decide +kernel
theorem d_Ji_bitCount_26 : decode (yB Y_Ji_bitCount) 26 = .ok (.iconst 4, 1) := by decide +kernel
theorem d_Ji_bitCount_27 : decode (yB Y_Ji_bitCount) 27 = .ok (.iushr, 1) := by decide +kernel
theorem d_Ji_bitCount_28 : decode (yB Y_Ji_bitCount) 28 = .ok (.iadd, 1) := by decide +kernel
theorem d_Ji_bitCount_29 : decode (yB Y_Ji_bitCount) 29 = .ok (.ldc_w 267, 3) := by decide +kernel
theorem d_Ji_bitCount_32 : decode (yB Y_Ji_bitCount) 32 = .ok (.iand, 1) := by decide +kernel
theorem d_Ji_bitCount_33 : decode (yB Y_Ji_bitCount) 33 = .ok (.istore_n 0, 1) := by decide +kernel
theorem d_Ji_bitCount_34 : decode (yB Y_Ji_bitCount) 34 = .ok (.iload_n 0, 1) := by decide +kernel
theorem d_Ji_bitCount_35 : decode (yB Y_Ji_bitCount) 35 = .ok (.iload_n 0, 1) := by decide +kernel
theorem d_Ji_bitCount_36 : decode (yB Y_Ji_bitCount) 36 = .ok (.bipush 8, 2) := by decide +kernel
theorem d_Ji_bitCount_38 : decode (yB Y_Ji_bitCount) 38 = .ok (.iushr, 1) := by decide +kernel
theorem d_Ji_bitCount_39 : decode (yB Y_Ji_bitCount) 39 = .ok (.iadd, 1) := by decide +kernel
theorem d_Ji_bitCount_40 : decode (yB Y_Ji_bitCount) 40 = .ok (.istore_n 0, 1) := by decide +kernel
theorem d_Ji_bitCount_41 : decode (yB Y_Ji_bitCount) 41 = .ok (.iload_n 0, 1) := by decide +kernel
theorem d_Ji_bitCount_42 : decode (yB Y_Ji_bitCount) 42 = .ok (.iload_n 0, 1) := by decide +kernel
theorem d_Ji_bitCount_43 : decode (yB Y_Ji_bitCount) 43 = .ok (.bipush 16, 2) := by decide +kernel
theorem d_Ji_bitCount_45 : decode (yB Y_Ji_bitCount) 45 = .ok (.iushr, 1) := by decide +kernel
theorem d_Ji_bitCount_46 : decode (yB Y_Ji_bitCount) 46 = .ok (.iadd, 1) := by decide +kernel
theorem d_Ji_bitCount_47 : decode (yB Y_Ji_bitCount) 47 = .ok (.istore_n 0, 1) := by decide +kernel
theorem d_Ji_bitCount_48 : decode (yB Y_Ji_bitCount) 48 = .ok (.iload_n 0, 1) := by decide +kernel
theorem d_Ji_bitCount_49 : decode (yB Y_Ji_bitCount) 49 = .ok (.bipush 63, 2) := by decide +kernel
theorem d_Ji_bitCount_51 : decode (yB Y_Ji_bitCount) 51 = .ok (.iand, 1) := by decide +kernel
theorem d_Ji_bitCount_52 : decode (yB Y_Ji_bitCount) 52 = .ok (.ireturn, 1) := by decide +kernel
def F_Ji_bitCount (n : Nat) (E : zE) (S : zS) (x0 : Int32) (M : zH) : Option (Int32 × zH) :=
  some ((((((((x0 - (((x0.toUInt32 >>> ((1 : Int32).toUInt32 &&& Int32.toUInt32 31)).toInt32) &&& (1431655765 : Int32))) &&& (858993459 : Int32)) + ((((x0 - (((x0.toUInt32 >>> ((1 : Int32).toUInt32 &&& Int32.toUInt32 31)).toInt32) &&& (1431655765 : Int32))).toUInt32 >>> ((2 : Int32).toUInt32 &&& Int32.toUInt32 31)).toInt32) &&& (858993459 : Int32))) + (((((x0 - (((x0.toUInt32 >>> ((1 : Int32).toUInt32 &&& Int32.toUInt32 31)).toInt32) &&& (1431655765 : Int32))) &&& (858993459 : Int32)) + ((((x0 - (((x0.toUInt32 >>> ((1 : Int32).toUInt32 &&& Int32.toUInt32 31)).toInt32) &&& (1431655765 : Int32))).toUInt32 >>> ((2 : Int32).toUInt32 &&& Int32.toUInt32 31)).toInt32) &&& (858993459 : Int32))).toUInt32 >>> ((4 : Int32).toUInt32 &&& Int32.toUInt32 31)).toInt32)) &&& (252645135 : Int32)) + (((((((x0 - (((x0.toUInt32 >>> ((1 : Int32).toUInt32 &&& Int32.toUInt32 31)).toInt32) &&& (1431655765 : Int32))) &&& (858993459 : Int32)) + ((((x0 - (((x0.toUInt32 >>> ((1 : Int32).toUInt32 &&& Int32.toUInt32 31)).toInt32) &&& (1431655765 : Int32))).toUInt32 >>> ((2 : Int32).toUInt32 &&& Int32.toUInt32 31)).toInt32) &&& (858993459 : Int32))) + (((((x0 - (((x0.toUInt32 >>> ((1 : Int32).toUInt32 &&& Int32.toUInt32 31)).toInt32) &&& (1431655765 : Int32))) &&& (858993459 : Int32)) + ((((x0 - (((x0.toUInt32 >>> ((1 : Int32).toUInt32 &&& Int32.toUInt32 31)).toInt32) &&& (1431655765 : Int32))).toUInt32 >>> ((2 : Int32).toUInt32 &&& Int32.toUInt32 31)).toInt32) &&& (858993459 : Int32))).toUInt32 >>> ((4 : Int32).toUInt32 &&& Int32.toUInt32 31)).toInt32)) &&& (252645135 : Int32)).toUInt32 >>> ((8 : Int32).toUInt32 &&& Int32.toUInt32 31)).toInt32)) + ((((((((x0 - (((x0.toUInt32 >>> ((1 : Int32).toUInt32 &&& Int32.toUInt32 31)).toInt32) &&& (1431655765 : Int32))) &&& (858993459 : Int32)) + ((((x0 - (((x0.toUInt32 >>> ((1 : Int32).toUInt32 &&& Int32.toUInt32 31)).toInt32) &&& (1431655765 : Int32))).toUInt32 >>> ((2 : Int32).toUInt32 &&& Int32.toUInt32 31)).toInt32) &&& (858993459 : Int32))) + (((((x0 - (((x0.toUInt32 >>> ((1 : Int32).toUInt32 &&& Int32.toUInt32 31)).toInt32) &&& (1431655765 : Int32))) &&& (858993459 : Int32)) + ((((x0 - (((x0.toUInt32 >>> ((1 : Int32).toUInt32 &&& Int32.toUInt32 31)).toInt32) &&& (1431655765 : Int32))).toUInt32 >>> ((2 : Int32).toUInt32 &&& Int32.toUInt32 31)).toInt32) &&& (858993459 : Int32))).toUInt32 >>> ((4 : Int32).toUInt32 &&& Int32.toUInt32 31)).toInt32)) &&& (252645135 : Int32)) + (((((((x0 - (((x0.toUInt32 >>> ((1 : Int32).toUInt32 &&& Int32.toUInt32 31)).toInt32) &&& (1431655765 : Int32))) &&& (858993459 : Int32)) + ((((x0 - (((x0.toUInt32 >>> ((1 : Int32).toUInt32 &&& Int32.toUInt32 31)).toInt32) &&& (1431655765 : Int32))).toUInt32 >>> ((2 : Int32).toUInt32 &&& Int32.toUInt32 31)).toInt32) &&& (858993459 : Int32))) + (((((x0 - (((x0.toUInt32 >>> ((1 : Int32).toUInt32 &&& Int32.toUInt32 31)).toInt32) &&& (1431655765 : Int32))) &&& (858993459 : Int32)) + ((((x0 - (((x0.toUInt32 >>> ((1 : Int32).toUInt32 &&& Int32.toUInt32 31)).toInt32) &&& (1431655765 : Int32))).toUInt32 >>> ((2 : Int32).toUInt32 &&& Int32.toUInt32 31)).toInt32) &&& (858993459 : Int32))).toUInt32 >>> ((4 : Int32).toUInt32 &&& Int32.toUInt32 31)).toInt32)) &&& (252645135 : Int32)).toUInt32 >>> ((8 : Int32).toUInt32 &&& Int32.toUInt32 31)).toInt32)).toUInt32 >>> ((16 : Int32).toUInt32 &&& Int32.toUInt32 31)).toInt32)) &&& (63 : Int32), M)
theorem K_Ji_bitCount (n : Nat) (E : zE) (S : zS) (x0 : Int32) (M : zH) (r : Int32) (M' : zH)  (h : F_Ji_bitCount n E S x0 M = some (r, M')) : zG E Y_Ji_bitCount (some (.int r), S, M') 0 [(0, .int x0)] [] S M 0 0 := by
  unfold F_Ji_bitCount at h
  refine zi_iload_n 0 d_Ji_bitCount_0 rfl ?_
  refine zi_iload_n 0 d_Ji_bitCount_1 rfl ?_
  refine zi_iconst 1 d_Ji_bitCount_2 rfl ?_
  refine zi_iushr d_Ji_bitCount_3 ?_
  refine zi_ldcw d_Ji_bitCount_4 tw_1105 ?_
  refine zi_iand d_Ji_bitCount_7 ?_
  refine zi_isub d_Ji_bitCount_8 ?_
  refine zi_istore_n [(0, .int (x0 - (((x0.toUInt32 >>> ((1 : Int32).toUInt32 &&& Int32.toUInt32 31)).toInt32) &&& (1431655765 : Int32))))] d_Ji_bitCount_9 (by decide) rfl ?_
  refine zi_iload_n 0 d_Ji_bitCount_10 rfl ?_
  refine zi_ldcw d_Ji_bitCount_11 tw_1106 ?_
  refine zi_iand d_Ji_bitCount_14 ?_
  refine zi_iload_n 0 d_Ji_bitCount_15 rfl ?_
  refine zi_iconst 2 d_Ji_bitCount_16 rfl ?_
  refine zi_iushr d_Ji_bitCount_17 ?_
  refine zi_ldcw d_Ji_bitCount_18 tw_1106 ?_
  refine zi_iand d_Ji_bitCount_21 ?_
  refine zi_iadd d_Ji_bitCount_22 ?_
  refine zi_istore_n [(0, .int (((x0 - (((x0.toUInt32 >>> ((1 : Int32).toUInt32 &&& Int32.toUInt32 31)).toInt32) &&& (1431655765 : Int32))) &&& (858993459 : Int32)) + ((((x0 - (((x0.toUInt32 >>> ((1 : Int32).toUInt32 &&& Int32.toUInt32 31)).toInt32) &&& (1431655765 : Int32))).toUInt32 >>> ((2 : Int32).toUInt32 &&& Int32.toUInt32 31)).toInt32) &&& (858993459 : Int32))))] d_Ji_bitCount_23 (by decide) rfl ?_
  refine zi_iload_n 0 d_Ji_bitCount_24 rfl ?_
  refine zi_iload_n 0 d_Ji_bitCount_25 rfl ?_
  refine zi_iconst 4 d_Ji_bitCount_26 rfl ?_
  refine zi_iushr d_Ji_bitCount_27 ?_
  refine zi_iadd d_Ji_bitCount_28 ?_
  refine zi_ldcw d_Ji_bitCount_29 tw_1107 ?_
  refine zi_iand d_Ji_bitCount_32 ?_
  refine zi_istore_n [(0, .int (((((x0 - (((x0.toUInt32 >>> ((1 : Int32).toUInt32 &&& Int32.toUInt32 31)).toInt32) &&& (1431655765 : Int32))) &&& (858993459 : Int32)) + ((((x0 - (((x0.toUInt32 >>> ((1 : Int32).toUInt32 &&& Int32.toUInt32 31)).toInt32) &&& (1431655765 : Int32))).toUInt32 >>> ((2 : Int32).toUInt32 &&& Int32.toUInt32 31)).toInt32) &&& (858993459 : Int32))) + (((((x0 - (((x0.toUInt32 >>> ((1 : Int32).toUInt32 &&& Int32.toUInt32 31)).toInt32) &&& (1431655765 : Int32))) &&& (858993459 : Int32)) + ((((x0 - (((x0.toUInt32 >>> ((1 : Int32).toUInt32 &&& Int32.toUInt32 31)).toInt32) &&& (1431655765 : Int32))).toUInt32 >>> ((2 : Int32).toUInt32 &&& Int32.toUInt32 31)).toInt32) &&& (858993459 : Int32))).toUInt32 >>> ((4 : Int32).toUInt32 &&& Int32.toUInt32 31)).toInt32)) &&& (252645135 : Int32)))] d_Ji_bitCount_33 (by decide) rfl ?_
  refine zi_iload_n 0 d_Ji_bitCount_34 rfl ?_
  refine zi_iload_n 0 d_Ji_bitCount_35 rfl ?_
  refine zi_bipush 8 d_Ji_bitCount_36 rfl ?_
  refine zi_iushr d_Ji_bitCount_38 ?_
  refine zi_iadd d_Ji_bitCount_39 ?_
  refine zi_istore_n [(0, .int ((((((x0 - (((x0.toUInt32 >>> ((1 : Int32).toUInt32 &&& Int32.toUInt32 31)).toInt32) &&& (1431655765 : Int32))) &&& (858993459 : Int32)) + ((((x0 - (((x0.toUInt32 >>> ((1 : Int32).toUInt32 &&& Int32.toUInt32 31)).toInt32) &&& (1431655765 : Int32))).toUInt32 >>> ((2 : Int32).toUInt32 &&& Int32.toUInt32 31)).toInt32) &&& (858993459 : Int32))) + (((((x0 - (((x0.toUInt32 >>> ((1 : Int32).toUInt32 &&& Int32.toUInt32 31)).toInt32) &&& (1431655765 : Int32))) &&& (858993459 : Int32)) + ((((x0 - (((x0.toUInt32 >>> ((1 : Int32).toUInt32 &&& Int32.toUInt32 31)).toInt32) &&& (1431655765 : Int32))).toUInt32 >>> ((2 : Int32).toUInt32 &&& Int32.toUInt32 31)).toInt32) &&& (858993459 : Int32))).toUInt32 >>> ((4 : Int32).toUInt32 &&& Int32.toUInt32 31)).toInt32)) &&& (252645135 : Int32)) + (((((((x0 - (((x0.toUInt32 >>> ((1 : Int32).toUInt32 &&& Int32.toUInt32 31)).toInt32) &&& (1431655765 : Int32))) &&& (858993459 : Int32)) + ((((x0 - (((x0.toUInt32 >>> ((1 : Int32).toUInt32 &&& Int32.toUInt32 31)).toInt32) &&& (1431655765 : Int32))).toUInt32 >>> ((2 : Int32).toUInt32 &&& Int32.toUInt32 31)).toInt32) &&& (858993459 : Int32))) + (((((x0 - (((x0.toUInt32 >>> ((1 : Int32).toUInt32 &&& Int32.toUInt32 31)).toInt32) &&& (1431655765 : Int32))) &&& (858993459 : Int32)) + ((((x0 - (((x0.toUInt32 >>> ((1 : Int32).toUInt32 &&& Int32.toUInt32 31)).toInt32) &&& (1431655765 : Int32))).toUInt32 >>> ((2 : Int32).toUInt32 &&& Int32.toUInt32 31)).toInt32) &&& (858993459 : Int32))).toUInt32 >>> ((4 : Int32).toUInt32 &&& Int32.toUInt32 31)).toInt32)) &&& (252645135 : Int32)).toUInt32 >>> ((8 : Int32).toUInt32 &&& Int32.toUInt32 31)).toInt32)))] d_Ji_bitCount_40 (by decide) rfl ?_
  refine zi_iload_n 0 d_Ji_bitCount_41 rfl ?_
  refine zi_iload_n 0 d_Ji_bitCount_42 rfl ?_
  refine zi_bipush 16 d_Ji_bitCount_43 rfl ?_
  refine zi_iushr d_Ji_bitCount_45 ?_
  refine zi_iadd d_Ji_bitCount_46 ?_
  refine zi_istore_n [(0, .int (((((((x0 - (((x0.toUInt32 >>> ((1 : Int32).toUInt32 &&& Int32.toUInt32 31)).toInt32) &&& (1431655765 : Int32))) &&& (858993459 : Int32)) + ((((x0 - (((x0.toUInt32 >>> ((1 : Int32).toUInt32 &&& Int32.toUInt32 31)).toInt32) &&& (1431655765 : Int32))).toUInt32 >>> ((2 : Int32).toUInt32 &&& Int32.toUInt32 31)).toInt32) &&& (858993459 : Int32))) + (((((x0 - (((x0.toUInt32 >>> ((1 : Int32).toUInt32 &&& Int32.toUInt32 31)).toInt32) &&& (1431655765 : Int32))) &&& (858993459 : Int32)) + ((((x0 - (((x0.toUInt32 >>> ((1 : Int32).toUInt32 &&& Int32.toUInt32 31)).toInt32) &&& (1431655765 : Int32))).toUInt32 >>> ((2 : Int32).toUInt32 &&& Int32.toUInt32 31)).toInt32) &&& (858993459 : Int32))).toUInt32 >>> ((4 : Int32).toUInt32 &&& Int32.toUInt32 31)).toInt32)) &&& (252645135 : Int32)) + (((((((x0 - (((x0.toUInt32 >>> ((1 : Int32).toUInt32 &&& Int32.toUInt32 31)).toInt32) &&& (1431655765 : Int32))) &&& (858993459 : Int32)) + ((((x0 - (((x0.toUInt32 >>> ((1 : Int32).toUInt32 &&& Int32.toUInt32 31)).toInt32) &&& (1431655765 : Int32))).toUInt32 >>> ((2 : Int32).toUInt32 &&& Int32.toUInt32 31)).toInt32) &&& (858993459 : Int32))) + (((((x0 - (((x0.toUInt32 >>> ((1 : Int32).toUInt32 &&& Int32.toUInt32 31)).toInt32) &&& (1431655765 : Int32))) &&& (858993459 : Int32)) + ((((x0 - (((x0.toUInt32 >>> ((1 : Int32).toUInt32 &&& Int32.toUInt32 31)).toInt32) &&& (1431655765 : Int32))).toUInt32 >>> ((2 : Int32).toUInt32 &&& Int32.toUInt32 31)).toInt32) &&& (858993459 : Int32))).toUInt32 >>> ((4 : Int32).toUInt32 &&& Int32.toUInt32 31)).toInt32)) &&& (252645135 : Int32)).toUInt32 >>> ((8 : Int32).toUInt32 &&& Int32.toUInt32 31)).toInt32)) + ((((((((x0 - (((x0.toUInt32 >>> ((1 : Int32).toUInt32 &&& Int32.toUInt32 31)).toInt32) &&& (1431655765 : Int32))) &&& (858993459 : Int32)) + ((((x0 - (((x0.toUInt32 >>> ((1 : Int32).toUInt32 &&& Int32.toUInt32 31)).toInt32) &&& (1431655765 : Int32))).toUInt32 >>> ((2 : Int32).toUInt32 &&& Int32.toUInt32 31)).toInt32) &&& (858993459 : Int32))) + (((((x0 - (((x0.toUInt32 >>> ((1 : Int32).toUInt32 &&& Int32.toUInt32 31)).toInt32) &&& (1431655765 : Int32))) &&& (858993459 : Int32)) + ((((x0 - (((x0.toUInt32 >>> ((1 : Int32).toUInt32 &&& Int32.toUInt32 31)).toInt32) &&& (1431655765 : Int32))).toUInt32 >>> ((2 : Int32).toUInt32 &&& Int32.toUInt32 31)).toInt32) &&& (858993459 : Int32))).toUInt32 >>> ((4 : Int32).toUInt32 &&& Int32.toUInt32 31)).toInt32)) &&& (252645135 : Int32)) + (((((((x0 - (((x0.toUInt32 >>> ((1 : Int32).toUInt32 &&& Int32.toUInt32 31)).toInt32) &&& (1431655765 : Int32))) &&& (858993459 : Int32)) + ((((x0 - (((x0.toUInt32 >>> ((1 : Int32).toUInt32 &&& Int32.toUInt32 31)).toInt32) &&& (1431655765 : Int32))).toUInt32 >>> ((2 : Int32).toUInt32 &&& Int32.toUInt32 31)).toInt32) &&& (858993459 : Int32))) + (((((x0 - (((x0.toUInt32 >>> ((1 : Int32).toUInt32 &&& Int32.toUInt32 31)).toInt32) &&& (1431655765 : Int32))) &&& (858993459 : Int32)) + ((((x0 - (((x0.toUInt32 >>> ((1 : Int32).toUInt32 &&& Int32.toUInt32 31)).toInt32) &&& (1431655765 : Int32))).toUInt32 >>> ((2 : Int32).toUInt32 &&& Int32.toUInt32 31)).toInt32) &&& (858993459 : Int32))).toUInt32 >>> ((4 : Int32).toUInt32 &&& Int32.toUInt32 31)).toInt32)) &&& (252645135 : Int32)).toUInt32 >>> ((8 : Int32).toUInt32 &&& Int32.toUInt32 31)).toInt32)).toUInt32 >>> ((16 : Int32).toUInt32 &&& Int32.toUInt32 31)).toInt32)))] d_Ji_bitCount_47 (by decide) rfl ?_
  refine zi_iload_n 0 d_Ji_bitCount_48 rfl ?_
  refine zi_bipush 63 d_Ji_bitCount_49 rfl ?_
  refine zi_iand d_Ji_bitCount_51 ?_
  cases h
  exact zo_ret d_Ji_bitCount_52 (Nat.le_of_ble_eq_true rfl) (Nat.le_of_ble_eq_true rfl) rfl
theorem C_Ji_bitCount (n : Nat) (E : zE) (S : zS) (x0 : Int32) (M : zH) (r : Int32) (M' : zH) (h : F_Ji_bitCount n E S x0 M = some (r, M')) : zC E Y_Ji_bitCount [.int x0] S M (some (.int r), S, M') :=
  zC.of (Or.inl (show plainName "java/lang/Integer" = true by decide)) (Nat.le_of_ble_eq_true rfl) (trivial) (K_Ji_bitCount n E S x0 M r M' h)
theorem d_Pa_findCleared_0 : decode (yB Y_Pa_findCleared) 0 = .ok (.iconst 0, 1) := by decide +kernel
theorem d_Pa_findCleared_1 : decode (yB Y_Pa_findCleared) 1 = .ok (.istore 4, 2) := by decide +kernel
theorem d_Pa_findCleared_3 : decode (yB Y_Pa_findCleared) 3 = .ok (.iconst 0, 1) := by decide +kernel
theorem d_Pa_findCleared_4 : decode (yB Y_Pa_findCleared) 4 = .ok (.istore 5, 2) := by decide +kernel
theorem d_Pa_findCleared_6 : decode (yB Y_Pa_findCleared) 6 = .ok (.iconst 0, 1) := by decide +kernel
theorem d_Pa_findCleared_7 : decode (yB Y_Pa_findCleared) 7 = .ok (.istore 6, 2) := by decide +kernel
theorem d_Pa_findCleared_9 : decode (yB Y_Pa_findCleared) 9 = .ok (.iload 6, 2) := by decide +kernel
theorem d_Pa_findCleared_11 : decode (yB Y_Pa_findCleared) 11 = .ok (.iconst 4, 1) := by decide +kernel
theorem d_Pa_findCleared_12 : decode (yB Y_Pa_findCleared) 12 = .ok (.if_icmp .ge 77, 3) := by decide +kernel
theorem d_Pa_findCleared_15 : decode (yB Y_Pa_findCleared) 15 = .ok (.aload_n 1, 1) := by decide +kernel
theorem d_Pa_findCleared_16 : decode (yB Y_Pa_findCleared) 16 = .ok (.iload 6, 2) := by decide +kernel
theorem d_Pa_findCleared_18 : decode (yB Y_Pa_findCleared) 18 = .ok (.iload_n 2, 1) := by decide +kernel
theorem d_Pa_findCleared_19 : decode (yB Y_Pa_findCleared) 19 = .ok (.invokevirtual 164, 3) := by decide +kernel
theorem d_Pa_findCleared_22 : decode (yB Y_Pa_findCleared) 22 = .ok (.istore 7, 2) := by decide +kernel
theorem d_Pa_findCleared_24 : decode (yB Y_Pa_findCleared) 24 = .ok (.aload_n 0, 1) := by decide +kernel
theorem d_Pa_findCleared_25 : decode (yB Y_Pa_findCleared) 25 = .ok (.getfield 18, 3) := by decide +kernel
theorem d_Pa_findCleared_28 : decode (yB Y_Pa_findCleared) 28 = .ok (.iload 6, 2) := by decide +kernel
theorem d_Pa_findCleared_30 : decode (yB Y_Pa_findCleared) 30 = .ok (.aload_n 0, 1) := by decide +kernel
theorem d_Pa_findCleared_31 : decode (yB Y_Pa_findCleared) 31 = .ok (.getfield 45, 3) := by decide +kernel
theorem d_Pa_findCleared_34 : decode (yB Y_Pa_findCleared) 34 = .ok (.aload_n 1, 1) := by decide +kernel
theorem d_Pa_findCleared_35 : decode (yB Y_Pa_findCleared) 35 = .ok (.iload 6, 2) := by decide +kernel
theorem d_Pa_findCleared_37 : decode (yB Y_Pa_findCleared) 37 = .ok (.iload 7, 2) := by decide +kernel
theorem d_Pa_findCleared_39 : decode (yB Y_Pa_findCleared) 39 = .ok (.invokevirtual 167, 3) := by decide +kernel
theorem d_Pa_findCleared_42 : decode (yB Y_Pa_findCleared) 42 = .ok (.iastore, 1) := by decide +kernel
theorem d_Pa_findCleared_43 : decode (yB Y_Pa_findCleared) 43 = .ok (.aload_n 1, 1) := by decide +kernel
theorem d_Pa_findCleared_44 : decode (yB Y_Pa_findCleared) 44 = .ok (.getfield 170, 3) := by decide +kernel
theorem d_Pa_findCleared_47 : decode (yB Y_Pa_findCleared) 47 = .ok (.iload 6, 2) := by decide +kernel
theorem d_Pa_findCleared_49 : decode (yB Y_Pa_findCleared) 49 = .ok (.bipush 8, 2) := by decide +kernel
theorem d_Pa_findCleared_51 : decode (yB Y_Pa_findCleared) 51 = .ok (.imul, 1) := by decide +kernel
theorem d_Pa_findCleared_52 : decode (yB Y_Pa_findCleared) 52 = .ok (.iload 7, 2) := by decide +kernel
theorem d_Pa_findCleared_54 : decode (yB Y_Pa_findCleared) 54 = .ok (.iadd, 1) := by decide +kernel
theorem d_Pa_findCleared_55 : decode (yB Y_Pa_findCleared) 55 = .ok (.baload, 1) := by decide +kernel
theorem d_Pa_findCleared_56 : decode (yB Y_Pa_findCleared) 56 = .ok (.ifCond .eq 15, 3) := by decide +kernel
theorem d_Pa_findCleared_59 : decode (yB Y_Pa_findCleared) 59 = .ok (.iload 5, 2) := by decide +kernel
theorem d_Pa_findCleared_61 : decode (yB Y_Pa_findCleared) 61 = .ok (.iconst 1, 1) := by decide +kernel
theorem d_Pa_findCleared_62 : decode (yB Y_Pa_findCleared) 62 = .ok (.iload 6, 2) := by decide +kernel
theorem d_Pa_findCleared_64 : decode (yB Y_Pa_findCleared) 64 = .ok (.ishl, 1) := by decide +kernel
theorem d_Pa_findCleared_65 : decode (yB Y_Pa_findCleared) 65 = .ok (.ior, 1) := by decide +kernel
theorem d_Pa_findCleared_66 : decode (yB Y_Pa_findCleared) 66 = .ok (.istore 5, 2) := by decide +kernel
theorem d_Pa_findCleared_68 : decode (yB Y_Pa_findCleared) 68 = .ok (.goto 15, 3) := by decide +kernel
theorem d_Pa_findCleared_71 : decode (yB Y_Pa_findCleared) 71 = .ok (.iload 4, 2) := by decide +kernel
theorem d_Pa_findCleared_73 : decode (yB Y_Pa_findCleared) 73 = .ok (.aload_n 0, 1) := by decide +kernel
theorem d_Pa_findCleared_74 : decode (yB Y_Pa_findCleared) 74 = .ok (.getfield 18, 3) := by decide +kernel
theorem d_Pa_findCleared_77 : decode (yB Y_Pa_findCleared) 77 = .ok (.iload 6, 2) := by decide +kernel
theorem d_Pa_findCleared_79 : decode (yB Y_Pa_findCleared) 79 = .ok (.iaload, 1) := by decide +kernel
theorem d_Pa_findCleared_80 : decode (yB Y_Pa_findCleared) 80 = .ok (.iadd, 1) := by decide +kernel
theorem d_Pa_findCleared_81 : decode (yB Y_Pa_findCleared) 81 = .ok (.istore 4, 2) := by decide +kernel
theorem d_Pa_findCleared_83 : decode (yB Y_Pa_findCleared) 83 = .ok (.iinc 6 1, 3) := by decide +kernel
theorem d_Pa_findCleared_86 : decode (yB Y_Pa_findCleared) 86 = .ok (.goto (-77), 3) := by decide +kernel
theorem d_Pa_findCleared_89 : decode (yB Y_Pa_findCleared) 89 = .ok (.aload_n 0, 1) := by decide +kernel
theorem d_Pa_findCleared_90 : decode (yB Y_Pa_findCleared) 90 = .ok (.iconst 5, 1) := by decide +kernel
theorem d_Pa_findCleared_91 : decode (yB Y_Pa_findCleared) 91 = .ok (.putfield 38, 3) := by decide +kernel
theorem d_Pa_findCleared_94 : decode (yB Y_Pa_findCleared) 94 = .ok (.iconst 0, 1) := by decide +kernel
theorem d_Pa_findCleared_95 : decode (yB Y_Pa_findCleared) 95 = .ok (.istore 6, 2) := by decide +kernel
theorem d_Pa_findCleared_97 : decode (yB Y_Pa_findCleared) 97 = .ok (.iload 6, 2) := by decide +kernel
theorem d_Pa_findCleared_99 : decode (yB Y_Pa_findCleared) 99 = .ok (.bipush 16, 2) := by decide +kernel
theorem d_Pa_findCleared_101 : decode (yB Y_Pa_findCleared) 101 = .ok (.if_icmp .ge 71, 3) := by decide +kernel
theorem d_Pa_findCleared_104 : decode (yB Y_Pa_findCleared) 104 = .ok (.iload 6, 2) := by decide +kernel
theorem d_Pa_findCleared_106 : decode (yB Y_Pa_findCleared) 106 = .ok (.iload 5, 2) := by decide +kernel
theorem d_Pa_findCleared_108 : decode (yB Y_Pa_findCleared) 108 = .ok (.iconst (-1), 1) := by decide +kernel
theorem d_Pa_findCleared_109 : decode (yB Y_Pa_findCleared) 109 = .ok (.ixor, 1) := by decide +kernel
theorem d_Pa_findCleared_110 : decode (yB Y_Pa_findCleared) 110 = .ok (.iand, 1) := by decide +kernel
theorem d_Pa_findCleared_111 : decode (yB Y_Pa_findCleared) 111 = .ok (.ifCond .ne 7, 3) := by decide +kernel
theorem d_Pa_findCleared_114 : decode (yB Y_Pa_findCleared) 114 = .ok (.iconst 1, 1) := by decide +kernel
theorem d_Pa_findCleared_115 : decode (yB Y_Pa_findCleared) 115 = .ok (.goto 4, 3) := by decide +kernel
theorem d_Pa_findCleared_118 : decode (yB Y_Pa_findCleared) 118 = .ok (.iconst 0, 1) := by decide +kernel
theorem d_Pa_findCleared_119 : decode (yB Y_Pa_findCleared) 119 = .ok (.istore 7, 2) := by decide +kernel
theorem d_Pa_findCleared_121 : decode (yB Y_Pa_findCleared) 121 = .ok (.iload 7, 2) := by decide +kernel
theorem d_Pa_findCleared_123 : decode (yB Y_Pa_findCleared) 123 = .ok (.ifCond .eq 43, 3) := by decide +kernel
theorem d_Pa_findCleared_126 : decode (yB Y_Pa_findCleared) 126 = .ok (.iload 6, 2) := by decide +kernel
theorem d_Pa_findCleared_128 : decode (yB Y_Pa_findCleared) 128 = .ok (.invokestatic 174, 3) := by decide +kernel
theorem d_Pa_findCleared_131 : decode (yB Y_Pa_findCleared) 131 = .ok (.aload_n 0, 1) := by decide +kernel
theorem d_Pa_findCleared_132 : decode (yB Y_Pa_findCleared) 132 = .ok (.getfield 38, 3) := by decide +kernel
theorem d_Pa_findCleared_135 : decode (yB Y_Pa_findCleared) 135 = .ok (.if_icmp .ge 31, 3) := by decide +kernel
theorem d_Pa_findCleared_138 : decode (yB Y_Pa_findCleared) 138 = .ok (.iload 4, 2) := by decide +kernel
theorem d_Pa_findCleared_140 : decode (yB Y_Pa_findCleared) 140 = .ok (.aload_n 0, 1) := by decide +kernel
theorem d_Pa_findCleared_141 : decode (yB Y_Pa_findCleared) 141 = .ok (.iload 6, 2) := by decide +kernel
theorem d_Pa_findCleared_143 : decode (yB Y_Pa_findCleared) 143 = .ok (.invokevirtual 179, 3) := by decide +kernel
theorem d_Pa_findCleared_146 : decode (yB Y_Pa_findCleared) 146 = .ok (.iadd, 1) := by decide +kernel
theorem d_Pa_findCleared_147 : decode (yB Y_Pa_findCleared) 147 = .ok (.iload_n 3, 1) := by decide +kernel
theorem d_Pa_findCleared_148 : decode (yB Y_Pa_findCleared) 148 = .ok (.if_icmp .lt 18, 3) := by decide +kernel
theorem d_Pa_findCleared_151 : decode (yB Y_Pa_findCleared) 151 = .ok (.aload_n 0, 1) := by decide +kernel
theorem d_Pa_findCleared_152 : decode (yB Y_Pa_findCleared) 152 = .ok (.iload 6, 2) := by decide +kernel
theorem d_Pa_findCleared_154 : decode (yB Y_Pa_findCleared) 154 = .ok (.invokestatic 174, 3) := by decide +kernel
theorem d_Pa_findCleared_157 : decode (yB Y_Pa_findCleared) 157 = .ok (.putfield 38, 3) := by decide +kernel
theorem d_Pa_findCleared_160 : decode (yB Y_Pa_findCleared) 160 = .ok (.aload_n 0, 1) := by decide +kernel
theorem d_Pa_findCleared_161 : decode (yB Y_Pa_findCleared) 161 = .ok (.iload 6, 2) := by decide +kernel
theorem d_Pa_findCleared_163 : decode (yB Y_Pa_findCleared) 163 = .ok (.putfield 42, 3) := by decide +kernel
theorem d_Pa_findCleared_166 : decode (yB Y_Pa_findCleared) 166 = .ok (.iinc 6 1, 3) := by decide +kernel
theorem d_Pa_findCleared_169 : decode (yB Y_Pa_findCleared) 169 = .ok (.goto (-72), 3) := by decide +kernel
theorem d_Pa_findCleared_172 : decode (yB Y_Pa_findCleared) 172 = .ok (.aload_n 0, 1) := by decide +kernel
theorem d_Pa_findCleared_173 : decode (yB Y_Pa_findCleared) 173 = .ok (.getfield 38, 3) := by decide +kernel
theorem d_Pa_findCleared_176 : decode (yB Y_Pa_findCleared) 176 = .ok (.iconst 4, 1) := by decide +kernel
theorem d_Pa_findCleared_177 : decode (yB Y_Pa_findCleared) 177 = .ok (.if_icmp .gt 7, 3) := by decide +kernel
theorem d_Pa_findCleared_180 : decode (yB Y_Pa_findCleared) 180 = .ok (.iconst 1, 1) := by decide +kernel
theorem d_Pa_findCleared_181 : decode (yB Y_Pa_findCleared) 181 = .ok (.goto 4, 3) := by decide +kernel
theorem d_Pa_findCleared_184 : decode (yB Y_Pa_findCleared) 184 = .ok (.iconst 0, 1) := by decide +kernel
theorem d_Pa_findCleared_185 : decode (yB Y_Pa_findCleared) 185 = .ok (.ireturn, 1) := by decide +kernel
def F_Pa_findCleared_b83 (n : Nat) (E : zE) (S : zS) (r9 : Nat × Nat × Int32 × Int32 × Int32 × Int32 × Int32 × zH → Option (Bool × zH)) (a0 : Nat) (a1 : Nat) (x2 : Int32) (x3 : Int32) (x4 : Int32) (x5 : Int32) (x6 : Int32) (M : zH) : Option (Bool × zH) :=
  r9 (a0, a1, x2, x3, x4, x5, x6 + 1, M)
def F_Pa_findCleared_b166 (n : Nat) (E : zE) (S : zS) (r97 : Nat × Int32 × Int32 × Int32 × Int32 × zH → Option (Bool × zH)) (a0 : Nat) (x3 : Int32) (x4 : Int32) (x5 : Int32) (x6 : Int32) (M : zH) : Option (Bool × zH) :=
  r97 (a0, x3, x4, x5, x6 + 1, M)
def F_Pa_findCleared_b119 (n : Nat) (E : zE) (S : zS) (r97 : Nat × Int32 × Int32 × Int32 × Int32 × zH → Option (Bool × zH)) (a0 : Nat) (x3 : Int32) (x4 : Int32) (x5 : Int32) (x6 : Int32) (s0 : Int32) (M : zH) : Option (Bool × zH) :=
  if s0 = 0 then
    F_Pa_findCleared_b166 n E S r97 a0 x3 x4 x5 x6 M
  else
    (F_Ji_bitCount n E S x6 M).bind fun q2 =>
    (zgI S q2.2 a0 4 8).bind fun v3 =>
    if v3 ≤ q2.1 then
      F_Pa_findCleared_b166 n E S r97 a0 x3 x4 x5 x6 q2.2
    else
      (F_Pa_sharesOf n E S a0 x6 q2.2).bind fun q5 =>
      if (x4 + q5.1) < x3 then
        F_Pa_findCleared_b166 n E S r97 a0 x3 x4 x5 x6 q5.2
      else
        (F_Ji_bitCount n E S x6 q5.2).bind fun q7 =>
        (zpI S q7.2 a0 4 8 q7.1).bind fun m8 =>
        (zpI S m8 a0 4 9 x6).bind fun m9 =>
        F_Pa_findCleared_b166 n E S r97 a0 x3 x4 x5 x6 m9
def F_Pa_findCleared_L97 (n : Nat) (E : zE) (S : zS) (r97 : Nat × Int32 × Int32 × Int32 × Int32 × zH → Option (Bool × zH)) (a0 : Nat) (x3 : Int32) (x4 : Int32) (x5 : Int32) (x6 : Int32) (M : zH) : Option (Bool × zH) :=
  if 16 ≤ x6 then
    (zgI S M a0 4 8).bind fun v11 =>
    if 4 < v11 then
      some (false, M)
    else
      some (true, M)
  else
    if (x6 &&& (x5 ^^^ (-1 : Int32))) = 0 then
      F_Pa_findCleared_b119 n E S r97 a0 x3 x4 x5 x6 1 M
    else
      F_Pa_findCleared_b119 n E S r97 a0 x3 x4 x5 x6 0 M
def F_Pa_findCleared_b97 (n : Nat) (E : zE) (S : zS) : Nat × Int32 × Int32 × Int32 × Int32 × zH → Option (Bool × zH) := zfix (fun r97 s => F_Pa_findCleared_L97 n E S r97 s.1 s.2.1 s.2.2.1 s.2.2.2.1 s.2.2.2.2.1 s.2.2.2.2.2) n
def F_Pa_findCleared_L9 (n : Nat) (E : zE) (S : zS) (r9 : Nat × Nat × Int32 × Int32 × Int32 × Int32 × Int32 × zH → Option (Bool × zH)) (a0 : Nat) (a1 : Nat) (x2 : Int32) (x3 : Int32) (x4 : Int32) (x5 : Int32) (x6 : Int32) (M : zH) : Option (Bool × zH) :=
  if 4 ≤ x6 then
    (zpI S M a0 4 8 5).bind fun m15 =>
    F_Pa_findCleared_b97 n E S (a0, x3, x4, x5, 0, m15)
  else
    (zck S a1 3).bind fun u16 =>
    (F_Ni_holeAbove n E S a1 x6 x2 M).bind fun q17 =>
    (zgR S a0 4 2).bind fun b18 =>
    (zgR S a0 4 0).bind fun b19 =>
    (zck S b19 1).bind fun u20 =>
    (F_Ju_runsOf n E S b19 a1 x6 q17.1 q17.2).bind fun q21 =>
    (zstI S q21.2 b18 x6 q21.1).bind fun m22 =>
    (zgR S a1 3 1).bind fun b23 =>
    (zldZ S m22 b23 ((x6 * 8) + q17.1)).bind fun v24 =>
    if v24 = 0 then
      (zldI S m22 b18 x6).bind fun v26 =>
      F_Pa_findCleared_b83 n E S r9 a0 a1 x2 x3 (x4 + v26) x5 x6 m22
    else
      F_Pa_findCleared_b83 n E S r9 a0 a1 x2 x3 x4 (x5 ||| ((1 : Int32) <<< (x6 &&& (31 : Int32)))) x6 m22
def F_Pa_findCleared_b9 (n : Nat) (E : zE) (S : zS) : Nat × Nat × Int32 × Int32 × Int32 × Int32 × Int32 × zH → Option (Bool × zH) := zfix (fun r9 s => F_Pa_findCleared_L9 n E S r9 s.1 s.2.1 s.2.2.1 s.2.2.2.1 s.2.2.2.2.1 s.2.2.2.2.2.1 s.2.2.2.2.2.2.1 s.2.2.2.2.2.2.2) n
def F_Pa_findCleared (n : Nat) (E : zE) (S : zS) (a0 : Nat) (a1 : Nat) (x2 : Int32) (x3 : Int32) (M : zH) : Option (Bool × zH) :=
  F_Pa_findCleared_b9 n E S (a0, a1, x2, x3, 0, 0, 0, M)
theorem K_Pa_findCleared_b83 (n : Nat) (E : zE) (S : zS) (r9 : Nat × Nat × Int32 × Int32 × Int32 × Int32 × Int32 × zH → Option (Bool × zH)) (a0 : Nat) (a1 : Nat) (x2 : Int32) (x3 : Int32) (x4 : Int32) (x5 : Int32) (x6 : Int32) (M : zH) (r : Bool) (M' : zH) (hr9 : ∀ (a0 : Nat) (a1 : Nat) (x2 : Int32) (x3 : Int32) (x4 : Int32) (x5 : Int32) (x6 : Int32) (M : zH), r9 (a0, a1, x2, x3, x4, x5, x6, M) = some (r, M') → zG E Y_Pa_findCleared (some (.int (bI r)), S, M') 9 [(0, .ref a0), (1, .ref a1), (2, .int x2), (3, .int x3), (4, .int x4), (5, .int x5), (6, .int x6)] [] S M 0 0) (h : F_Pa_findCleared_b83 n E S r9 a0 a1 x2 x3 x4 x5 x6 M = some (r, M')) : zG E Y_Pa_findCleared (some (.int (bI r)), S, M') 83 [(0, .ref a0), (1, .ref a1), (2, .int x2), (3, .int x3), (4, .int x4), (5, .int x5), (6, .int x6)] [] S M 0 0 := by
  unfold F_Pa_findCleared_b83 at h
  refine zi_iinc 6 (x6 + 1) [(6, .int (x6 + 1)), (0, .ref a0), (1, .ref a1), (2, .int x2), (3, .int x3), (4, .int x4), (5, .int x5)] d_Pa_findCleared_83 rfl rfl (by decide) rfl ?_
  refine zi_goto (tgt := 9) d_Pa_findCleared_86 rfl ?_
  refine zi_lo [(0, .ref a0), (1, .ref a1), (2, .int x2), (3, .int x3), (4, .int x4), (5, .int x5), (6, .int (x6 + 1))] [1, 2, 3, 4, 5, 6, 0] rfl ?_
  exact hr9 a0 a1 x2 x3 x4 x5 (x6 + 1) M h
theorem K_Pa_findCleared_b166 (n : Nat) (E : zE) (S : zS) (r97 : Nat × Int32 × Int32 × Int32 × Int32 × zH → Option (Bool × zH)) (a0 : Nat) (x3 : Int32) (x4 : Int32) (x5 : Int32) (x6 : Int32) (M : zH) (r : Bool) (M' : zH) (hr97 : ∀ (a0 : Nat) (x3 : Int32) (x4 : Int32) (x5 : Int32) (x6 : Int32) (M : zH), r97 (a0, x3, x4, x5, x6, M) = some (r, M') → zG E Y_Pa_findCleared (some (.int (bI r)), S, M') 97 [(0, .ref a0), (3, .int x3), (4, .int x4), (5, .int x5), (6, .int x6)] [] S M 0 0) (h : F_Pa_findCleared_b166 n E S r97 a0 x3 x4 x5 x6 M = some (r, M')) : zG E Y_Pa_findCleared (some (.int (bI r)), S, M') 166 [(0, .ref a0), (3, .int x3), (4, .int x4), (5, .int x5), (6, .int x6)] [] S M 0 0 := by
  unfold F_Pa_findCleared_b166 at h
  refine zi_iinc 4 (x6 + 1) [(6, .int (x6 + 1)), (0, .ref a0), (3, .int x3), (4, .int x4), (5, .int x5)] d_Pa_findCleared_166 rfl rfl (by decide) rfl ?_
  refine zi_goto (tgt := 97) d_Pa_findCleared_169 rfl ?_
  refine zi_lo [(0, .ref a0), (3, .int x3), (4, .int x4), (5, .int x5), (6, .int (x6 + 1))] [1, 2, 3, 4, 0] rfl ?_
  exact hr97 a0 x3 x4 x5 (x6 + 1) M h
theorem K_Pa_findCleared_b119 (n : Nat) (E : zE) (S : zS) (r97 : Nat × Int32 × Int32 × Int32 × Int32 × zH → Option (Bool × zH)) (a0 : Nat) (x3 : Int32) (x4 : Int32) (x5 : Int32) (x6 : Int32) (s0 : Int32) (M : zH) (r : Bool) (M' : zH) (hr97 : ∀ (a0 : Nat) (x3 : Int32) (x4 : Int32) (x5 : Int32) (x6 : Int32) (M : zH), r97 (a0, x3, x4, x5, x6, M) = some (r, M') → zG E Y_Pa_findCleared (some (.int (bI r)), S, M') 97 [(0, .ref a0), (3, .int x3), (4, .int x4), (5, .int x5), (6, .int x6)] [] S M 0 0) (h : F_Pa_findCleared_b119 n E S r97 a0 x3 x4 x5 x6 s0 M = some (r, M')) : zG E Y_Pa_findCleared (some (.int (bI r)), S, M') 119 [(0, .ref a0), (3, .int x3), (4, .int x4), (5, .int x5), (6, .int x6)] [.int s0] S M 0 0 := by
  unfold F_Pa_findCleared_b119 at h
  refine zi_istore [(7, .int s0), (0, .ref a0), (3, .int x3), (4, .int x4), (5, .int x5), (6, .int x6)] d_Pa_findCleared_119 (by decide) rfl ?_
  refine zi_iload 0 d_Pa_findCleared_121 rfl ?_
  refine zi_if_eq (tgt := 166) d_Pa_findCleared_123 rfl (fun c1 => ?_) (fun c1 => ?_)
  · rw [if_pos c1] at h
    refine zi_lo [(0, .ref a0), (3, .int x3), (4, .int x4), (5, .int x5), (6, .int x6)] [1, 2, 3, 4, 5] rfl ?_
    exact K_Pa_findCleared_b166 n E S r97 a0 x3 x4 x5 x6 M r M' hr97 h
  · rw [if_neg c1] at h
    refine zi_iload 5 d_Pa_findCleared_126 rfl ?_
    obtain ⟨q2, eq2, h⟩ := zbind h
    refine zo_stat (k' := 0) (n' := 0) 131 [.int x6] [] [.int q2.1] (C_Ji_bitCount n E S x6 M q2.1 q2.2 eq2) d_Pa_findCleared_128 tw_1104 tw_1102 tw_1103 tw_21 dd_Ji_bitCount ⟨Nat.le_of_ble_eq_true rfl, Nat.le_of_ble_eq_true rfl, Nat.le_of_ble_eq_true rfl, Nat.le_of_ble_eq_true rfl⟩ (Nat.le_of_ble_eq_true rfl) rfl rfl rfl rfl ?_
    refine zi_aload_n 1 d_Pa_findCleared_131 rfl ?_
    obtain ⟨v3, ev3, h⟩ := zbind h
    refine zo_getI 135 zkd_4 8 d_Pa_findCleared_132 ev3 rfl tw_306 rfl ?_
    refine zi_icmp_ge (tgt := 166) d_Pa_findCleared_135 rfl (fun c4 => ?_) (fun c4 => ?_)
    · rw [if_pos c4] at h
      refine zi_lo [(0, .ref a0), (3, .int x3), (4, .int x4), (5, .int x5), (6, .int x6)] [1, 2, 3, 4, 5] rfl ?_
      exact K_Pa_findCleared_b166 n E S r97 a0 x3 x4 x5 x6 q2.2 r M' hr97 h
    · rw [if_neg c4] at h
      refine zi_iload 3 d_Pa_findCleared_138 rfl ?_
      refine zi_aload_n 1 d_Pa_findCleared_140 rfl ?_
      refine zi_iload 5 d_Pa_findCleared_141 rfl ?_
      obtain ⟨q5, eq5, h⟩ := zbind h
      refine zo_virt (k' := 0) (n' := 0) 146 [.int x6] [.int x4] [.int q5.1, .int x4] zkd_4 (zgI_s ev3).1 (C_Pa_sharesOf n E S a0 x6 q2.2 q5.1 q5.2 eq5) d_Pa_findCleared_143 tw_1111 tw_1108 tw_1110 ts_35 tw_12 dd_Pa_sharesOf ⟨Nat.le_of_ble_eq_true rfl, Nat.le_of_ble_eq_true rfl, Nat.le_of_ble_eq_true rfl, Nat.le_of_ble_eq_true rfl⟩ (Nat.le_of_ble_eq_true rfl) rfl rfl rfl rfl ?_
      refine zi_iadd d_Pa_findCleared_146 ?_
      refine zi_iload_n 2 d_Pa_findCleared_147 rfl ?_
      refine zi_icmp_lt (tgt := 166) d_Pa_findCleared_148 rfl (fun c6 => ?_) (fun c6 => ?_)
      · rw [if_pos c6] at h
        refine zi_lo [(0, .ref a0), (3, .int x3), (4, .int x4), (5, .int x5), (6, .int x6)] [1, 2, 3, 4, 5] rfl ?_
        exact K_Pa_findCleared_b166 n E S r97 a0 x3 x4 x5 x6 q5.2 r M' hr97 h
      · rw [if_neg c6] at h
        refine zi_aload_n 1 d_Pa_findCleared_151 rfl ?_
        refine zi_iload 5 d_Pa_findCleared_152 rfl ?_
        obtain ⟨q7, eq7, h⟩ := zbind h
        refine zo_stat (k' := 0) (n' := 0) 157 [.int x6] [.ref a0] [.int q7.1, .ref a0] (C_Ji_bitCount n E S x6 q5.2 q7.1 q7.2 eq7) d_Pa_findCleared_154 tw_1104 tw_1102 tw_1103 tw_21 dd_Ji_bitCount ⟨Nat.le_of_ble_eq_true rfl, Nat.le_of_ble_eq_true rfl, Nat.le_of_ble_eq_true rfl, Nat.le_of_ble_eq_true rfl⟩ (Nat.le_of_ble_eq_true rfl) rfl rfl rfl rfl ?_
        obtain ⟨m8, em8, h⟩ := zbind h
        refine zo_putI 160 zkd_4 8 d_Pa_findCleared_157 em8 rfl rfl rfl tw_306 rfl ?_
        refine zi_aload_n 1 d_Pa_findCleared_160 rfl ?_
        refine zi_iload 5 d_Pa_findCleared_161 rfl ?_
        obtain ⟨m9, em9, h⟩ := zbind h
        refine zo_putI 166 zkd_4 9 d_Pa_findCleared_163 em9 rfl rfl rfl tw_308 rfl ?_
        refine zi_lo [(0, .ref a0), (3, .int x3), (4, .int x4), (5, .int x5), (6, .int x6)] [1, 2, 3, 4, 5] rfl ?_
        exact K_Pa_findCleared_b166 n E S r97 a0 x3 x4 x5 x6 m9 r M' hr97 h
theorem K_Pa_findCleared_L97 (n : Nat) (E : zE) (S : zS) (r97 : Nat × Int32 × Int32 × Int32 × Int32 × zH → Option (Bool × zH)) (a0 : Nat) (x3 : Int32) (x4 : Int32) (x5 : Int32) (x6 : Int32) (M : zH) (r : Bool) (M' : zH) (hr97 : ∀ (a0 : Nat) (x3 : Int32) (x4 : Int32) (x5 : Int32) (x6 : Int32) (M : zH), r97 (a0, x3, x4, x5, x6, M) = some (r, M') → zG E Y_Pa_findCleared (some (.int (bI r)), S, M') 97 [(0, .ref a0), (3, .int x3), (4, .int x4), (5, .int x5), (6, .int x6)] [] S M 0 0) (h : F_Pa_findCleared_L97 n E S r97 a0 x3 x4 x5 x6 M = some (r, M')) : zG E Y_Pa_findCleared (some (.int (bI r)), S, M') 97 [(0, .ref a0), (3, .int x3), (4, .int x4), (5, .int x5), (6, .int x6)] [] S M 0 0 := by
  unfold F_Pa_findCleared_L97 at h
  refine zi_iload 4 d_Pa_findCleared_97 rfl ?_
  refine zi_bipush 16 d_Pa_findCleared_99 rfl ?_
  refine zi_icmp_ge (tgt := 172) d_Pa_findCleared_101 rfl (fun c10 => ?_) (fun c10 => ?_)
  · rw [if_pos c10] at h
    refine zi_aload_n 0 d_Pa_findCleared_172 rfl ?_
    obtain ⟨v11, ev11, h⟩ := zbind h
    refine zo_getI 176 zkd_4 8 d_Pa_findCleared_173 ev11 rfl tw_306 rfl ?_
    refine zi_iconst 4 d_Pa_findCleared_176 rfl ?_
    refine zi_icmp_gt (tgt := 184) d_Pa_findCleared_177 rfl (fun c12 => ?_) (fun c12 => ?_)
    · rw [if_pos c12] at h
      refine zi_iconst 0 d_Pa_findCleared_184 rfl ?_
      cases h
      exact zo_retB d_Pa_findCleared_185 (Nat.le_of_ble_eq_true rfl) (Nat.le_of_ble_eq_true rfl) rfl
    · rw [if_neg c12] at h
      refine zi_iconst 1 d_Pa_findCleared_180 rfl ?_
      refine zi_goto (tgt := 185) d_Pa_findCleared_181 rfl ?_
      cases h
      exact zo_retB d_Pa_findCleared_185 (Nat.le_of_ble_eq_true rfl) (Nat.le_of_ble_eq_true rfl) rfl
  · rw [if_neg c10] at h
    refine zi_iload 4 d_Pa_findCleared_104 rfl ?_
    refine zi_iload 3 d_Pa_findCleared_106 rfl ?_
    refine zi_iconst (-1) d_Pa_findCleared_108 rfl ?_
    refine zi_ixor d_Pa_findCleared_109 ?_
    refine zi_iand d_Pa_findCleared_110 ?_
    refine zi_if_ne (tgt := 118) d_Pa_findCleared_111 rfl (fun c13 => ?_) (fun c13 => ?_)
    · rw [if_neg c13] at h
      refine zi_iconst 0 d_Pa_findCleared_118 rfl ?_
      refine zi_lo [(0, .ref a0), (3, .int x3), (4, .int x4), (5, .int x5), (6, .int x6)] [0, 1, 2, 3, 4] rfl ?_
      exact K_Pa_findCleared_b119 n E S r97 a0 x3 x4 x5 x6 0 M r M' hr97 h
    · rw [if_pos c13] at h
      refine zi_iconst 1 d_Pa_findCleared_114 rfl ?_
      refine zi_goto (tgt := 119) d_Pa_findCleared_115 rfl ?_
      refine zi_lo [(0, .ref a0), (3, .int x3), (4, .int x4), (5, .int x5), (6, .int x6)] [0, 1, 2, 3, 4] rfl ?_
      exact K_Pa_findCleared_b119 n E S r97 a0 x3 x4 x5 x6 1 M r M' hr97 h
theorem K_Pa_findCleared_b97 (n : Nat) (E : zE) (S : zS) (a0 : Nat) (x3 : Int32) (x4 : Int32) (x5 : Int32) (x6 : Int32) (M : zH) (r : Bool) (M' : zH)  (h : F_Pa_findCleared_b97 n E S (a0, x3, x4, x5, x6, M) = some (r, M')) : zG E Y_Pa_findCleared (some (.int (bI r)), S, M') 97 [(0, .ref a0), (3, .int x3), (4, .int x4), (5, .int x5), (6, .int x6)] [] S M 0 0 := by
  have key : ∀ (k : Nat) (a0 : Nat) (x3 : Int32) (x4 : Int32) (x5 : Int32) (x6 : Int32) (M : zH), zfix (fun r97 s => F_Pa_findCleared_L97 n E S r97 s.1 s.2.1 s.2.2.1 s.2.2.2.1 s.2.2.2.2.1 s.2.2.2.2.2) k (a0, x3, x4, x5, x6, M) = some (r, M') → zG E Y_Pa_findCleared (some (.int (bI r)), S, M') 97 [(0, .ref a0), (3, .int x3), (4, .int x4), (5, .int x5), (6, .int x6)] [] S M 0 0 := by
    intro k
    induction k with
    | zero => intro a0 x3 x4 x5 x6 M h; cases h
    | succ k ih => intro a0 x3 x4 x5 x6 M h; exact K_Pa_findCleared_L97 n E S _ a0 x3 x4 x5 x6 M r M'  (fun a0 x3 x4 x5 x6 M h => ih a0 x3 x4 x5 x6 M h) h
  exact key n a0 x3 x4 x5 x6 M h
theorem K_Pa_findCleared_L9 (n : Nat) (E : zE) (S : zS) (r9 : Nat × Nat × Int32 × Int32 × Int32 × Int32 × Int32 × zH → Option (Bool × zH)) (a0 : Nat) (a1 : Nat) (x2 : Int32) (x3 : Int32) (x4 : Int32) (x5 : Int32) (x6 : Int32) (M : zH) (r : Bool) (M' : zH) (hr9 : ∀ (a0 : Nat) (a1 : Nat) (x2 : Int32) (x3 : Int32) (x4 : Int32) (x5 : Int32) (x6 : Int32) (M : zH), r9 (a0, a1, x2, x3, x4, x5, x6, M) = some (r, M') → zG E Y_Pa_findCleared (some (.int (bI r)), S, M') 9 [(0, .ref a0), (1, .ref a1), (2, .int x2), (3, .int x3), (4, .int x4), (5, .int x5), (6, .int x6)] [] S M 0 0) (h : F_Pa_findCleared_L9 n E S r9 a0 a1 x2 x3 x4 x5 x6 M = some (r, M')) : zG E Y_Pa_findCleared (some (.int (bI r)), S, M') 9 [(0, .ref a0), (1, .ref a1), (2, .int x2), (3, .int x3), (4, .int x4), (5, .int x5), (6, .int x6)] [] S M 0 0 := by
  unfold F_Pa_findCleared_L9 at h
  refine zi_iload 6 d_Pa_findCleared_9 rfl ?_
  refine zi_iconst 4 d_Pa_findCleared_11 rfl ?_
  refine zi_icmp_ge (tgt := 89) d_Pa_findCleared_12 rfl (fun c14 => ?_) (fun c14 => ?_)
  · rw [if_pos c14] at h
    refine zi_aload_n 0 d_Pa_findCleared_89 rfl ?_
    refine zi_iconst 5 d_Pa_findCleared_90 rfl ?_
    obtain ⟨m15, em15, h⟩ := zbind h
    refine zo_putI 94 zkd_4 8 d_Pa_findCleared_91 em15 rfl rfl rfl tw_306 rfl ?_
    refine zi_iconst 0 d_Pa_findCleared_94 rfl ?_
    refine zi_istore [(6, .int 0), (0, .ref a0), (1, .ref a1), (2, .int x2), (3, .int x3), (4, .int x4), (5, .int x5)] d_Pa_findCleared_95 (by decide) rfl ?_
    refine zi_lo [(0, .ref a0), (3, .int x3), (4, .int x4), (5, .int x5), (6, .int 0)] [1, 4, 5, 6, 0] rfl ?_
    exact K_Pa_findCleared_b97 n E S a0 x3 x4 x5 0 m15 r M'  h
  · rw [if_neg c14] at h
    refine zi_aload_n 1 d_Pa_findCleared_15 rfl ?_
    refine zi_iload 6 d_Pa_findCleared_16 rfl ?_
    refine zi_iload_n 2 d_Pa_findCleared_18 rfl ?_
    obtain ⟨u16, eu16, h⟩ := zbind h
    obtain ⟨q17, eq17, h⟩ := zbind h
    refine zo_virt (k' := 0) (n' := 0) 22 [.int x6, .int x2] [] [.int q17.1] zkd_3 (zck_s eu16) (C_Ni_holeAbove n E S a1 x6 x2 M q17.1 q17.2 eq17) d_Pa_findCleared_19 tw_518 tw_1100 tw_516 tw_517 tw_2 dd_Ni_holeAbove ⟨Nat.le_of_ble_eq_true rfl, Nat.le_of_ble_eq_true rfl, Nat.le_of_ble_eq_true rfl, Nat.le_of_ble_eq_true rfl⟩ (Nat.le_of_ble_eq_true rfl) rfl rfl rfl rfl ?_
    refine zi_istore [(7, .int q17.1), (0, .ref a0), (1, .ref a1), (2, .int x2), (3, .int x3), (4, .int x4), (5, .int x5), (6, .int x6)] d_Pa_findCleared_22 (by decide) rfl ?_
    refine zi_aload_n 1 d_Pa_findCleared_24 rfl ?_
    obtain ⟨b18, eb18, h⟩ := zbind h
    refine zo_getR 28 zkd_4 2 d_Pa_findCleared_25 eb18 rfl tw_300 rfl ?_
    refine zi_iload 7 d_Pa_findCleared_28 rfl ?_
    refine zi_aload_n 1 d_Pa_findCleared_30 rfl ?_
    obtain ⟨b19, eb19, h⟩ := zbind h
    refine zo_getR 34 zkd_4 0 d_Pa_findCleared_31 eb19 rfl tw_298 rfl ?_
    refine zi_aload_n 2 d_Pa_findCleared_34 rfl ?_
    refine zi_iload 7 d_Pa_findCleared_35 rfl ?_
    refine zi_iload 0 d_Pa_findCleared_37 rfl ?_
    obtain ⟨u20, eu20, h⟩ := zbind h
    obtain ⟨q21, eq21, h⟩ := zbind h
    refine zo_virt (k' := 0) (n' := 0) 42 [.ref a1, .int x6, .int q17.1] [.int x6, .ref b18] [.int q21.1, .int x6, .ref b18] zkd_1 (zck_s eu20) (C_Ju_runsOf n E S b19 a1 x6 q17.1 q17.2 q21.1 q21.2 eq21) d_Pa_findCleared_39 tw_413 tw_1101 tw_411 tw_412 tw_8 dd_Ju_runsOf ⟨Nat.le_of_ble_eq_true rfl, Nat.le_of_ble_eq_true rfl, Nat.le_of_ble_eq_true rfl, Nat.le_of_ble_eq_true rfl⟩ (Nat.le_of_ble_eq_true rfl) rfl rfl rfl rfl ?_
    obtain ⟨m22, em22, h⟩ := zbind h
    refine zo_iast 43 d_Pa_findCleared_42 em22 rfl ?_
    refine zi_aload_n 2 d_Pa_findCleared_43 rfl ?_
    obtain ⟨b23, eb23, h⟩ := zbind h
    refine zo_getR 47 zkd_3 1 d_Pa_findCleared_44 eb23 rfl tw_51 rfl ?_
    refine zi_iload 7 d_Pa_findCleared_47 rfl ?_
    refine zi_bipush 8 d_Pa_findCleared_49 rfl ?_
    refine zi_imul d_Pa_findCleared_51 ?_
    refine zi_iload 0 d_Pa_findCleared_52 rfl ?_
    refine zi_iadd d_Pa_findCleared_54 ?_
    obtain ⟨v24, ev24, h⟩ := zbind h
    refine zo_zald 56 d_Pa_findCleared_55 ev24 rfl ?_
    refine zi_if_eq (tgt := 71) d_Pa_findCleared_56 rfl (fun c25 => ?_) (fun c25 => ?_)
    · rw [if_pos c25] at h
      refine zi_iload 5 d_Pa_findCleared_71 rfl ?_
      refine zi_aload_n 1 d_Pa_findCleared_73 rfl ?_
      refine zo_getR 77 zkd_4 2 d_Pa_findCleared_74 eb18 rfl tw_300 rfl ?_
      refine zi_iload 7 d_Pa_findCleared_77 rfl ?_
      obtain ⟨v26, ev26, h⟩ := zbind h
      refine zo_iald 80 d_Pa_findCleared_79 ev26 rfl ?_
      refine zi_iadd d_Pa_findCleared_80 ?_
      refine zi_istore [(4, .int (x4 + v26)), (7, .int q17.1), (0, .ref a0), (1, .ref a1), (2, .int x2), (3, .int x3), (5, .int x5), (6, .int x6)] d_Pa_findCleared_81 (by decide) rfl ?_
      refine zi_lo [(0, .ref a0), (1, .ref a1), (2, .int x2), (3, .int x3), (4, .int (x4 + v26)), (5, .int x5), (6, .int x6)] [2, 3, 4, 5, 0, 6, 7] rfl ?_
      exact K_Pa_findCleared_b83 n E S r9 a0 a1 x2 x3 (x4 + v26) x5 x6 m22 r M' hr9 h
    · rw [if_neg c25] at h
      refine zi_iload 6 d_Pa_findCleared_59 rfl ?_
      refine zi_iconst 1 d_Pa_findCleared_61 rfl ?_
      refine zi_iload 7 d_Pa_findCleared_62 rfl ?_
      refine zi_ishl d_Pa_findCleared_64 ?_
      refine zi_ior d_Pa_findCleared_65 ?_
      refine zi_istore [(5, .int (x5 ||| ((1 : Int32) <<< (x6 &&& (31 : Int32))))), (7, .int q17.1), (0, .ref a0), (1, .ref a1), (2, .int x2), (3, .int x3), (4, .int x4), (6, .int x6)] d_Pa_findCleared_66 (by decide) rfl ?_
      refine zi_goto (tgt := 83) d_Pa_findCleared_68 rfl ?_
      refine zi_lo [(0, .ref a0), (1, .ref a1), (2, .int x2), (3, .int x3), (4, .int x4), (5, .int (x5 ||| ((1 : Int32) <<< (x6 &&& (31 : Int32))))), (6, .int x6)] [2, 3, 4, 5, 6, 0, 7] rfl ?_
      exact K_Pa_findCleared_b83 n E S r9 a0 a1 x2 x3 x4 (x5 ||| ((1 : Int32) <<< (x6 &&& (31 : Int32)))) x6 m22 r M' hr9 h
theorem K_Pa_findCleared_b9 (n : Nat) (E : zE) (S : zS) (a0 : Nat) (a1 : Nat) (x2 : Int32) (x3 : Int32) (x4 : Int32) (x5 : Int32) (x6 : Int32) (M : zH) (r : Bool) (M' : zH)  (h : F_Pa_findCleared_b9 n E S (a0, a1, x2, x3, x4, x5, x6, M) = some (r, M')) : zG E Y_Pa_findCleared (some (.int (bI r)), S, M') 9 [(0, .ref a0), (1, .ref a1), (2, .int x2), (3, .int x3), (4, .int x4), (5, .int x5), (6, .int x6)] [] S M 0 0 := by
  have key : ∀ (k : Nat) (a0 : Nat) (a1 : Nat) (x2 : Int32) (x3 : Int32) (x4 : Int32) (x5 : Int32) (x6 : Int32) (M : zH), zfix (fun r9 s => F_Pa_findCleared_L9 n E S r9 s.1 s.2.1 s.2.2.1 s.2.2.2.1 s.2.2.2.2.1 s.2.2.2.2.2.1 s.2.2.2.2.2.2.1 s.2.2.2.2.2.2.2) k (a0, a1, x2, x3, x4, x5, x6, M) = some (r, M') → zG E Y_Pa_findCleared (some (.int (bI r)), S, M') 9 [(0, .ref a0), (1, .ref a1), (2, .int x2), (3, .int x3), (4, .int x4), (5, .int x5), (6, .int x6)] [] S M 0 0 := by
    intro k
    induction k with
    | zero => intro a0 a1 x2 x3 x4 x5 x6 M h; cases h
    | succ k ih => intro a0 a1 x2 x3 x4 x5 x6 M h; exact K_Pa_findCleared_L9 n E S _ a0 a1 x2 x3 x4 x5 x6 M r M'  (fun a0 a1 x2 x3 x4 x5 x6 M h => ih a0 a1 x2 x3 x4 x5 x6 M h) h
  exact key n a0 a1 x2 x3 x4 x5 x6 M h
theorem K_Pa_findCleared (n : Nat) (E : zE) (S : zS) (a0 : Nat) (a1 : Nat) (x2 : Int32) (x3 : Int32) (M : zH) (r : Bool) (M' : zH)  (h : F_Pa_findCleared n E S a0 a1 x2 x3 M = some (r, M')) : zG E Y_Pa_findCleared (some (.int (bI r)), S, M') 0 [(0, .ref a0), (1, .ref a1), (2, .int x2), (3, .int x3)] [] S M 0 0 := by
  unfold F_Pa_findCleared at h
  refine zi_iconst 0 d_Pa_findCleared_0 rfl ?_
  refine zi_istore [(4, .int 0), (0, .ref a0), (1, .ref a1), (2, .int x2), (3, .int x3)] d_Pa_findCleared_1 (by decide) rfl ?_
  refine zi_iconst 0 d_Pa_findCleared_3 rfl ?_
  refine zi_istore [(5, .int 0), (4, .int 0), (0, .ref a0), (1, .ref a1), (2, .int x2), (3, .int x3)] d_Pa_findCleared_4 (by decide) rfl ?_
  refine zi_iconst 0 d_Pa_findCleared_6 rfl ?_
  refine zi_istore [(6, .int 0), (5, .int 0), (4, .int 0), (0, .ref a0), (1, .ref a1), (2, .int x2), (3, .int x3)] d_Pa_findCleared_7 (by decide) rfl ?_
  refine zi_lo [(0, .ref a0), (1, .ref a1), (2, .int x2), (3, .int x3), (4, .int 0), (5, .int 0), (6, .int 0)] [3, 4, 5, 6, 2, 1, 0] rfl ?_
  exact K_Pa_findCleared_b9 n E S a0 a1 x2 x3 0 0 0 M r M'  h
theorem C_Pa_findCleared (n : Nat) (E : zE) (S : zS) (a0 : Nat) (a1 : Nat) (x2 : Int32) (x3 : Int32) (M : zH) (r : Bool) (M' : zH) (h : F_Pa_findCleared n E S a0 a1 x2 x3 M = some (r, M')) : zC E Y_Pa_findCleared [.ref a0, .ref a1, .int x2, .int x3] S M (some (.int (bI r)), S, M') :=
  zC.of (Or.inl (show plainName "NightColander$Paper" = true by decide)) (Nat.le_of_ble_eq_true rfl) (bI_nar r) (K_Pa_findCleared n E S a0 a1 x2 x3 M r M' h)
theorem d_NC_cleared_0 : decode (yB Y_NC_cleared) 0 = .ok (.iload_n 1, 1) := by decide +kernel
theorem d_NC_cleared_1 : decode (yB Y_NC_cleared) 1 = .ok (.invokestatic 149, 3) := by decide +kernel
theorem d_NC_cleared_4 : decode (yB Y_NC_cleared) 4 = .ok (.ifCond .eq 23, 3) := by decide +kernel
theorem d_NC_cleared_7 : decode (yB Y_NC_cleared) 7 = .ok (.iload_n 2, 1) := by decide +kernel
theorem d_NC_cleared_8 : decode (yB Y_NC_cleared) 8 = .ok (.iconst 0, 1) := by decide +kernel
theorem d_NC_cleared_9 : decode (yB Y_NC_cleared) 9 = .ok (.sipush 400, 3) := by decide +kernel
theorem d_NC_cleared_12 : decode (yB Y_NC_cleared) 12 = .ok (.invokestatic 132, 3) := by decide +kernel
theorem d_NC_cleared_15 : decode (yB Y_NC_cleared) 15 = .ok (.ifCond .eq 12, 3) := by decide +kernel
theorem d_NC_cleared_18 : decode (yB Y_NC_cleared) 18 = .ok (.iload_n 3, 1) := by decide +kernel
theorem d_NC_cleared_19 : decode (yB Y_NC_cleared) 19 = .ok (.iconst 0, 1) := by decide +kernel
theorem d_NC_cleared_20 : decode (yB Y_NC_cleared) 20 = .ok (.iconst 1, 1) := by decide +kernel
theorem d_NC_cleared_21 : decode (yB Y_NC_cleared) 21 = .ok (.invokestatic 132, 3) := by decide +kernel
theorem d_NC_cleared_24 : decode (yB Y_NC_cleared) 24 = .ok (.ifCond .ne 5, 3) := by decide +kernel
theorem d_NC_cleared_27 : decode (yB Y_NC_cleared) 27 = .ok (.iconst (-1), 1) := by decide +kernel
theorem d_NC_cleared_28 : decode (yB Y_NC_cleared) 28 = .ok (.ireturn, 1) := by decide +kernel
theorem d_NC_cleared_29 : decode (yB Y_NC_cleared) 29 = .ok (.aload_n 0, 1) := by decide +kernel
theorem d_NC_cleared_30 : decode (yB Y_NC_cleared) 30 = .ok (.getfield 86, 3) := by decide +kernel
theorem d_NC_cleared_33 : decode (yB Y_NC_cleared) 33 = .ok (.aload_n 0, 1) := by decide +kernel
theorem d_NC_cleared_34 : decode (yB Y_NC_cleared) 34 = .ok (.getfield 12, 3) := by decide +kernel
theorem d_NC_cleared_37 : decode (yB Y_NC_cleared) 37 = .ok (.iload_n 1, 1) := by decide +kernel
theorem d_NC_cleared_38 : decode (yB Y_NC_cleared) 38 = .ok (.iload_n 2, 1) := by decide +kernel
theorem d_NC_cleared_39 : decode (yB Y_NC_cleared) 39 = .ok (.invokevirtual 292, 3) := by decide +kernel
theorem d_NC_cleared_42 : decode (yB Y_NC_cleared) 42 = .ok (.ifCond .ne 5, 3) := by decide +kernel
theorem d_NC_cleared_45 : decode (yB Y_NC_cleared) 45 = .ok (.iconst (-1), 1) := by decide +kernel
theorem d_NC_cleared_46 : decode (yB Y_NC_cleared) 46 = .ok (.ireturn, 1) := by decide +kernel
theorem d_NC_cleared_47 : decode (yB Y_NC_cleared) 47 = .ok (.iload_n 3, 1) := by decide +kernel
theorem d_NC_cleared_48 : decode (yB Y_NC_cleared) 48 = .ok (.ifCond .ne 13, 3) := by decide +kernel
theorem d_NC_cleared_51 : decode (yB Y_NC_cleared) 51 = .ok (.aload_n 0, 1) := by decide +kernel
theorem d_NC_cleared_52 : decode (yB Y_NC_cleared) 52 = .ok (.getfield 86, 3) := by decide +kernel
theorem d_NC_cleared_55 : decode (yB Y_NC_cleared) 55 = .ok (.getfield 267, 3) := by decide +kernel
theorem d_NC_cleared_58 : decode (yB Y_NC_cleared) 58 = .ok (.goto 10, 3) := by decide +kernel
theorem d_NC_cleared_61 : decode (yB Y_NC_cleared) 61 = .ok (.aload_n 0, 1) := by decide +kernel
theorem d_NC_cleared_62 : decode (yB Y_NC_cleared) 62 = .ok (.getfield 86, 3) := by decide +kernel
theorem d_NC_cleared_65 : decode (yB Y_NC_cleared) 65 = .ok (.getfield 286, 3) := by decide +kernel
theorem d_NC_cleared_68 : decode (yB Y_NC_cleared) 68 = .ok (.ireturn, 1) := by decide +kernel
def F_NC_cleared (n : Nat) (E : zE) (S : zS) (a0 : Nat) (x1 : Int32) (x2 : Int32) (x3 : Int32) (M : zH) : Option (Int32 × zH) :=
  (F_NC_isField n E S x1 M).bind fun q1 =>
  if q1.1 = true then
    (F_NC_within n E S x2 0 400 q1.2).bind fun q3 =>
    if q3.1 = true then
      (F_NC_within n E S x3 0 1 q3.2).bind fun q5 =>
      if q5.1 = true then
        (zgR S a0 10 12).bind fun b7 =>
        (zgR S a0 10 0).bind fun b8 =>
        (zck S b7 4).bind fun u9 =>
        (F_Pa_findCleared n E S b7 b8 x1 x2 q5.2).bind fun q10 =>
        if q10.1 = true then
          if x3 = 0 then
            (zgI S q10.2 b7 4 8).bind fun v13 =>
            some (v13, q10.2)
          else
            (zgI S q10.2 b7 4 9).bind fun v14 =>
            some (v14, q10.2)
        else
          some ((-1), q10.2)
      else
        some ((-1), q5.2)
    else
      some ((-1), q3.2)
  else
    some ((-1), q1.2)
theorem K_NC_cleared (n : Nat) (E : zE) (S : zS) (a0 : Nat) (x1 : Int32) (x2 : Int32) (x3 : Int32) (M : zH) (r : Int32) (M' : zH)  (h : F_NC_cleared n E S a0 x1 x2 x3 M = some (r, M')) : zG E Y_NC_cleared (some (.int r), S, M') 0 [(0, .ref a0), (1, .int x1), (2, .int x2), (3, .int x3)] [] S M 0 0 := by
  unfold F_NC_cleared at h
  refine zi_iload_n 1 d_NC_cleared_0 rfl ?_
  obtain ⟨q1, eq1, h⟩ := zbind h
  refine zo_stat (k' := 0) (n' := 0) 4 [.int x1] [] [.int (bI q1.1)] (C_NC_isField n E S x1 M q1.1 q1.2 eq1) d_NC_cleared_1 tw_465 tw_463 tw_464 tw_1 dd_NC_isField ⟨Nat.le_of_ble_eq_true rfl, Nat.le_of_ble_eq_true rfl, Nat.le_of_ble_eq_true rfl, Nat.le_of_ble_eq_true rfl⟩ (Nat.le_of_ble_eq_true rfl) rfl rfl rfl rfl ?_
  refine zo_ifeqB d_NC_cleared_4 rfl 7 rfl (fun c2 => ?_) (fun c2 => ?_)
  · rw [if_neg c2] at h
    refine zi_iconst (-1) d_NC_cleared_27 rfl ?_
    cases h
    exact zo_ret d_NC_cleared_28 (Nat.le_of_ble_eq_true rfl) (Nat.le_of_ble_eq_true rfl) rfl
  · rw [if_pos c2] at h
    refine zi_iload_n 2 d_NC_cleared_7 rfl ?_
    refine zi_iconst 0 d_NC_cleared_8 rfl ?_
    refine zi_sipush 400 d_NC_cleared_9 rfl ?_
    obtain ⟨q3, eq3, h⟩ := zbind h
    refine zo_stat (k' := 0) (n' := 0) 15 [.int x2, .int 0, .int 400] [] [.int (bI q3.1)] (C_NC_within n E S x2 0 400 q1.2 q3.1 q3.2 eq3) d_NC_cleared_12 tw_399 tw_397 tw_398 tw_1 dd_NC_within ⟨Nat.le_of_ble_eq_true rfl, Nat.le_of_ble_eq_true rfl, Nat.le_of_ble_eq_true rfl, Nat.le_of_ble_eq_true rfl⟩ (Nat.le_of_ble_eq_true rfl) rfl rfl rfl rfl ?_
    refine zo_ifeqB d_NC_cleared_15 rfl 18 rfl (fun c4 => ?_) (fun c4 => ?_)
    · rw [if_neg c4] at h
      refine zi_iconst (-1) d_NC_cleared_27 rfl ?_
      cases h
      exact zo_ret d_NC_cleared_28 (Nat.le_of_ble_eq_true rfl) (Nat.le_of_ble_eq_true rfl) rfl
    · rw [if_pos c4] at h
      refine zi_iload_n 3 d_NC_cleared_18 rfl ?_
      refine zi_iconst 0 d_NC_cleared_19 rfl ?_
      refine zi_iconst 1 d_NC_cleared_20 rfl ?_
      obtain ⟨q5, eq5, h⟩ := zbind h
      refine zo_stat (k' := 0) (n' := 0) 24 [.int x3, .int 0, .int 1] [] [.int (bI q5.1)] (C_NC_within n E S x3 0 1 q3.2 q5.1 q5.2 eq5) d_NC_cleared_21 tw_399 tw_397 tw_398 tw_1 dd_NC_within ⟨Nat.le_of_ble_eq_true rfl, Nat.le_of_ble_eq_true rfl, Nat.le_of_ble_eq_true rfl, Nat.le_of_ble_eq_true rfl⟩ (Nat.le_of_ble_eq_true rfl) rfl rfl rfl rfl ?_
      refine zo_ifneB d_NC_cleared_24 rfl 27 rfl (fun c6 => ?_) (fun c6 => ?_)
      · rw [if_pos c6] at h
        refine zi_aload_n 0 d_NC_cleared_29 rfl ?_
        obtain ⟨b7, eb7, h⟩ := zbind h
        refine zo_getR 33 zkd_10 12 d_NC_cleared_30 eb7 rfl tw_344 rfl ?_
        refine zi_aload_n 0 d_NC_cleared_33 rfl ?_
        obtain ⟨b8, eb8, h⟩ := zbind h
        refine zo_getR 37 zkd_10 0 d_NC_cleared_34 eb8 rfl tw_332 rfl ?_
        refine zi_iload_n 1 d_NC_cleared_37 rfl ?_
        refine zi_iload_n 2 d_NC_cleared_38 rfl ?_
        obtain ⟨u9, eu9, h⟩ := zbind h
        obtain ⟨q10, eq10, h⟩ := zbind h
        refine zo_virt (k' := 0) (n' := 0) 42 [.ref b8, .int x1, .int x2] [] [.int (bI q10.1)] zkd_4 (zck_s eu9) (C_Pa_findCleared n E S b7 b8 x1 x2 q5.2 q10.1 q10.2 eq10) d_NC_cleared_39 tw_1099 tw_1096 tw_1097 tw_1098 tw_12 dd_Pa_findCleared ⟨Nat.le_of_ble_eq_true rfl, Nat.le_of_ble_eq_true rfl, Nat.le_of_ble_eq_true rfl, Nat.le_of_ble_eq_true rfl⟩ (Nat.le_of_ble_eq_true rfl) rfl rfl rfl rfl ?_
        refine zo_ifneB d_NC_cleared_42 rfl 45 rfl (fun c11 => ?_) (fun c11 => ?_)
        · rw [if_pos c11] at h
          refine zi_iload_n 3 d_NC_cleared_47 rfl ?_
          refine zi_if_ne (tgt := 61) d_NC_cleared_48 rfl (fun c12 => ?_) (fun c12 => ?_)
          · rw [if_neg c12] at h
            refine zi_aload_n 0 d_NC_cleared_61 rfl ?_
            refine zo_getR 65 zkd_10 12 d_NC_cleared_62 eb7 rfl tw_344 rfl ?_
            obtain ⟨v14, ev14, h⟩ := zbind h
            refine zo_getI 68 zkd_4 9 d_NC_cleared_65 ev14 rfl tw_309 rfl ?_
            cases h
            exact zo_ret d_NC_cleared_68 (Nat.le_of_ble_eq_true rfl) (Nat.le_of_ble_eq_true rfl) rfl
          · rw [if_pos c12] at h
            refine zi_aload_n 0 d_NC_cleared_51 rfl ?_
            refine zo_getR 55 zkd_10 12 d_NC_cleared_52 eb7 rfl tw_344 rfl ?_
            obtain ⟨v13, ev13, h⟩ := zbind h
            refine zo_getI 58 zkd_4 8 d_NC_cleared_55 ev13 rfl tw_307 rfl ?_
            refine zi_goto (tgt := 68) d_NC_cleared_58 rfl ?_
            cases h
            exact zo_ret d_NC_cleared_68 (Nat.le_of_ble_eq_true rfl) (Nat.le_of_ble_eq_true rfl) rfl
        · rw [if_neg c11] at h
          refine zi_iconst (-1) d_NC_cleared_45 rfl ?_
          cases h
          exact zo_ret d_NC_cleared_46 (Nat.le_of_ble_eq_true rfl) (Nat.le_of_ble_eq_true rfl) rfl
      · rw [if_neg c6] at h
        refine zi_iconst (-1) d_NC_cleared_27 rfl ?_
        cases h
        exact zo_ret d_NC_cleared_28 (Nat.le_of_ble_eq_true rfl) (Nat.le_of_ble_eq_true rfl) rfl
theorem C_NC_cleared (n : Nat) (E : zE) (S : zS) (a0 : Nat) (x1 : Int32) (x2 : Int32) (x3 : Int32) (M : zH) (r : Int32) (M' : zH) (h : F_NC_cleared n E S a0 x1 x2 x3 M = some (r, M')) : zC E Y_NC_cleared [.ref a0, .int x1, .int x2, .int x3] S M (some (.int r), S, M') :=
  zC.of (Or.inl (show plainName "NightColander" = true by decide)) (Nat.le_of_ble_eq_true rfl) (trivial) (K_NC_cleared n E S a0 x1 x2 x3 M r M' h)
theorem d_Pa_longestDrought_0 : decode (yB Y_Pa_longestDrought) 0 = .ok (.aload_n 0, 1) := by decide +kernel
theorem d_Pa_longestDrought_1 : decode (yB Y_Pa_longestDrought) 1 = .ok (.getfield 12, 3) := by decide +kernel
theorem d_Pa_longestDrought_4 : decode (yB Y_Pa_longestDrought) 4 = .ok (.aload_n 1, 1) := by decide +kernel
theorem d_Pa_longestDrought_5 : decode (yB Y_Pa_longestDrought) 5 = .ok (.invokevirtual 53, 3) := by decide +kernel
theorem d_Pa_longestDrought_8 : decode (yB Y_Pa_longestDrought) 8 = .ok (.iconst 0, 1) := by decide +kernel
theorem d_Pa_longestDrought_9 : decode (yB Y_Pa_longestDrought) 9 = .ok (.istore_n 3, 1) := by decide +kernel
theorem d_Pa_longestDrought_10 : decode (yB Y_Pa_longestDrought) 10 = .ok (.iconst 0, 1) := by decide +kernel
theorem d_Pa_longestDrought_11 : decode (yB Y_Pa_longestDrought) 11 = .ok (.istore 4, 2) := by decide +kernel
theorem d_Pa_longestDrought_13 : decode (yB Y_Pa_longestDrought) 13 = .ok (.iconst 0, 1) := by decide +kernel
theorem d_Pa_longestDrought_14 : decode (yB Y_Pa_longestDrought) 14 = .ok (.istore 5, 2) := by decide +kernel
theorem d_Pa_longestDrought_16 : decode (yB Y_Pa_longestDrought) 16 = .ok (.iload 5, 2) := by decide +kernel
theorem d_Pa_longestDrought_18 : decode (yB Y_Pa_longestDrought) 18 = .ok (.bipush 60, 2) := by decide +kernel
theorem d_Pa_longestDrought_20 : decode (yB Y_Pa_longestDrought) 20 = .ok (.if_icmp .ge 49, 3) := by decide +kernel
theorem d_Pa_longestDrought_23 : decode (yB Y_Pa_longestDrought) 23 = .ok (.aload_n 0, 1) := by decide +kernel
theorem d_Pa_longestDrought_24 : decode (yB Y_Pa_longestDrought) 24 = .ok (.getfield 45, 3) := by decide +kernel
theorem d_Pa_longestDrought_27 : decode (yB Y_Pa_longestDrought) 27 = .ok (.aload_n 0, 1) := by decide +kernel
theorem d_Pa_longestDrought_28 : decode (yB Y_Pa_longestDrought) 28 = .ok (.getfield 12, 3) := by decide +kernel
theorem d_Pa_longestDrought_31 : decode (yB Y_Pa_longestDrought) 31 = .ok (.iload_n 2, 1) := by decide +kernel
theorem d_Pa_longestDrought_32 : decode (yB Y_Pa_longestDrought) 32 = .ok (.invokevirtual 57, 3) := by decide +kernel
theorem d_Pa_longestDrought_35 : decode (yB Y_Pa_longestDrought) 35 = .ok (.ifCond .ne 10, 3) := by decide +kernel
theorem d_Pa_longestDrought_38 : decode (yB Y_Pa_longestDrought) 38 = .ok (.iload 4, 2) := by decide +kernel
theorem d_Pa_longestDrought_40 : decode (yB Y_Pa_longestDrought) 40 = .ok (.iconst 1, 1) := by decide +kernel
theorem d_Pa_longestDrought_41 : decode (yB Y_Pa_longestDrought) 41 = .ok (.iadd, 1) := by decide +kernel
theorem d_Pa_longestDrought_42 : decode (yB Y_Pa_longestDrought) 42 = .ok (.goto 4, 3) := by decide +kernel
theorem d_Pa_longestDrought_45 : decode (yB Y_Pa_longestDrought) 45 = .ok (.iconst 0, 1) := by decide +kernel
theorem d_Pa_longestDrought_46 : decode (yB Y_Pa_longestDrought) 46 = .ok (.istore 4, 2) := by decide +kernel
theorem d_Pa_longestDrought_48 : decode (yB Y_Pa_longestDrought) 48 = .ok (.iload_n 3, 1) := by decide +kernel
theorem d_Pa_longestDrought_49 : decode (yB Y_Pa_longestDrought) 49 = .ok (.iload 4, 2) := by decide +kernel
theorem d_Pa_longestDrought_51 : decode (yB Y_Pa_longestDrought) 51 = .ok (.invokestatic 67, 3) := by decide +kernel
theorem d_Pa_longestDrought_54 : decode (yB Y_Pa_longestDrought) 54 = .ok (.istore_n 3, 1) := by decide +kernel
theorem d_Pa_longestDrought_55 : decode (yB Y_Pa_longestDrought) 55 = .ok (.aload_n 0, 1) := by decide +kernel
theorem d_Pa_longestDrought_56 : decode (yB Y_Pa_longestDrought) 56 = .ok (.getfield 12, 3) := by decide +kernel
theorem d_Pa_longestDrought_59 : decode (yB Y_Pa_longestDrought) 59 = .ok (.iconst 1, 1) := by decide +kernel
theorem d_Pa_longestDrought_60 : decode (yB Y_Pa_longestDrought) 60 = .ok (.invokevirtual 63, 3) := by decide +kernel
theorem d_Pa_longestDrought_63 : decode (yB Y_Pa_longestDrought) 63 = .ok (.iinc 5 1, 3) := by decide +kernel
theorem d_Pa_longestDrought_66 : decode (yB Y_Pa_longestDrought) 66 = .ok (.goto (-50), 3) := by decide +kernel
theorem d_Pa_longestDrought_69 : decode (yB Y_Pa_longestDrought) 69 = .ok (.iload_n 3, 1) := by decide +kernel
theorem d_Pa_longestDrought_70 : decode (yB Y_Pa_longestDrought) 70 = .ok (.ireturn, 1) := by decide +kernel
def F_Pa_longestDrought_b46 (n : Nat) (E : zE) (S : zS) (r16 : Nat × Int32 × Int32 × Int32 × Int32 × zH → Option (Int32 × zH)) (a0 : Nat) (x2 : Int32) (x3 : Int32) (x5 : Int32) (s0 : Int32) (M : zH) : Option (Int32 × zH) :=
  (F_Jm_max n E S x3 s0 M).bind fun q1 =>
  (zgR S a0 4 1).bind fun b2 =>
  (zck S b2 3).bind fun u3 =>
  (F_Ni_turnAll n E S b2 1 q1.2).bind fun q4 =>
  r16 (a0, x2, q1.1, s0, x5 + 1, q4)
def F_Pa_longestDrought_L16 (n : Nat) (E : zE) (S : zS) (r16 : Nat × Int32 × Int32 × Int32 × Int32 × zH → Option (Int32 × zH)) (a0 : Nat) (x2 : Int32) (x3 : Int32) (x4 : Int32) (x5 : Int32) (M : zH) : Option (Int32 × zH) :=
  if 60 ≤ x5 then
    some (x3, M)
  else
    (zgR S a0 4 0).bind fun b6 =>
    (zgR S a0 4 1).bind fun b7 =>
    (zck S b6 1).bind fun u8 =>
    (F_Ju_threadsOn n E S b6 b7 x2 M).bind fun q9 =>
    if q9.1 = 0 then
      F_Pa_longestDrought_b46 n E S r16 a0 x2 x3 x5 (x4 + 1) q9.2
    else
      F_Pa_longestDrought_b46 n E S r16 a0 x2 x3 x5 0 q9.2
def F_Pa_longestDrought_b16 (n : Nat) (E : zE) (S : zS) : Nat × Int32 × Int32 × Int32 × Int32 × zH → Option (Int32 × zH) := zfix (fun r16 s => F_Pa_longestDrought_L16 n E S r16 s.1 s.2.1 s.2.2.1 s.2.2.2.1 s.2.2.2.2.1 s.2.2.2.2.2) n
def F_Pa_longestDrought (n : Nat) (E : zE) (S : zS) (a0 : Nat) (a1 : Nat) (x2 : Int32) (M : zH) : Option (Int32 × zH) :=
  (zgR S a0 4 1).bind fun b11 =>
  (zck S b11 3).bind fun u12 =>
  (F_Ni_copyFrom n E S b11 a1 M).bind fun q13 =>
  F_Pa_longestDrought_b16 n E S (a0, x2, 0, 0, 0, q13)
theorem K_Pa_longestDrought_b46 (n : Nat) (E : zE) (S : zS) (r16 : Nat × Int32 × Int32 × Int32 × Int32 × zH → Option (Int32 × zH)) (a0 : Nat) (x2 : Int32) (x3 : Int32) (x5 : Int32) (s0 : Int32) (M : zH) (r : Int32) (M' : zH) (hr16 : ∀ (a0 : Nat) (x2 : Int32) (x3 : Int32) (x4 : Int32) (x5 : Int32) (M : zH), r16 (a0, x2, x3, x4, x5, M) = some (r, M') → zG E Y_Pa_longestDrought (some (.int r), S, M') 16 [(0, .ref a0), (2, .int x2), (3, .int x3), (4, .int x4), (5, .int x5)] [] S M 0 0) (h : F_Pa_longestDrought_b46 n E S r16 a0 x2 x3 x5 s0 M = some (r, M')) : zG E Y_Pa_longestDrought (some (.int r), S, M') 46 [(0, .ref a0), (2, .int x2), (3, .int x3), (5, .int x5)] [.int s0] S M 0 0 := by
  unfold F_Pa_longestDrought_b46 at h
  refine zi_istore [(4, .int s0), (0, .ref a0), (2, .int x2), (3, .int x3), (5, .int x5)] d_Pa_longestDrought_46 (by decide) rfl ?_
  refine zi_iload_n 3 d_Pa_longestDrought_48 rfl ?_
  refine zi_iload 0 d_Pa_longestDrought_49 rfl ?_
  obtain ⟨q1, eq1, h⟩ := zbind h
  refine zo_stat (k' := 0) (n' := 0) 54 [.int x3, .int s0] [] [.int q1.1] (C_Jm_max n E S x3 s0 M q1.1 q1.2 eq1) d_Pa_longestDrought_51 tw_436 tw_1006 tw_435 tw_14 dd_Jm_max ⟨Nat.le_of_ble_eq_true rfl, Nat.le_of_ble_eq_true rfl, Nat.le_of_ble_eq_true rfl, Nat.le_of_ble_eq_true rfl⟩ (Nat.le_of_ble_eq_true rfl) rfl rfl rfl rfl ?_
  refine zi_istore_n [(3, .int q1.1), (4, .int s0), (0, .ref a0), (2, .int x2), (5, .int x5)] d_Pa_longestDrought_54 (by decide) rfl ?_
  refine zi_aload_n 2 d_Pa_longestDrought_55 rfl ?_
  obtain ⟨b2, eb2, h⟩ := zbind h
  refine zo_getR 59 zkd_4 1 d_Pa_longestDrought_56 eb2 rfl tw_299 rfl ?_
  refine zi_iconst 1 d_Pa_longestDrought_59 rfl ?_
  obtain ⟨u3, eu3, h⟩ := zbind h
  obtain ⟨q4, eq4, h⟩ := zbind h
  refine zo_virt (k' := 0) (n' := 0) 63 [.int 1] [] [] zkd_3 (zck_s eu3) (C_Ni_turnAll n E S b2 1 q1.2 q4 eq4) d_Pa_longestDrought_60 tw_929 tw_986 tw_927 tw_928 tw_2 dd_Ni_turnAll ⟨Nat.le_of_ble_eq_true rfl, Nat.le_of_ble_eq_true rfl, Nat.le_of_ble_eq_true rfl, Nat.le_of_ble_eq_true rfl⟩ (Nat.le_of_ble_eq_true rfl) rfl rfl rfl rfl ?_
  refine zi_iinc 4 (x5 + 1) [(5, .int (x5 + 1)), (3, .int q1.1), (4, .int s0), (0, .ref a0), (2, .int x2)] d_Pa_longestDrought_63 rfl rfl (by decide) rfl ?_
  refine zi_goto (tgt := 16) d_Pa_longestDrought_66 rfl ?_
  refine zi_lo [(0, .ref a0), (2, .int x2), (3, .int q1.1), (4, .int s0), (5, .int (x5 + 1))] [3, 4, 1, 2, 0] rfl ?_
  exact hr16 a0 x2 q1.1 s0 (x5 + 1) q4 h
theorem K_Pa_longestDrought_L16 (n : Nat) (E : zE) (S : zS) (r16 : Nat × Int32 × Int32 × Int32 × Int32 × zH → Option (Int32 × zH)) (a0 : Nat) (x2 : Int32) (x3 : Int32) (x4 : Int32) (x5 : Int32) (M : zH) (r : Int32) (M' : zH) (hr16 : ∀ (a0 : Nat) (x2 : Int32) (x3 : Int32) (x4 : Int32) (x5 : Int32) (M : zH), r16 (a0, x2, x3, x4, x5, M) = some (r, M') → zG E Y_Pa_longestDrought (some (.int r), S, M') 16 [(0, .ref a0), (2, .int x2), (3, .int x3), (4, .int x4), (5, .int x5)] [] S M 0 0) (h : F_Pa_longestDrought_L16 n E S r16 a0 x2 x3 x4 x5 M = some (r, M')) : zG E Y_Pa_longestDrought (some (.int r), S, M') 16 [(0, .ref a0), (2, .int x2), (3, .int x3), (4, .int x4), (5, .int x5)] [] S M 0 0 := by
  unfold F_Pa_longestDrought_L16 at h
  refine zi_iload 4 d_Pa_longestDrought_16 rfl ?_
  refine zi_bipush 60 d_Pa_longestDrought_18 rfl ?_
  refine zi_icmp_ge (tgt := 69) d_Pa_longestDrought_20 rfl (fun c5 => ?_) (fun c5 => ?_)
  · rw [if_pos c5] at h
    refine zi_iload_n 2 d_Pa_longestDrought_69 rfl ?_
    cases h
    exact zo_ret d_Pa_longestDrought_70 (Nat.le_of_ble_eq_true rfl) (Nat.le_of_ble_eq_true rfl) rfl
  · rw [if_neg c5] at h
    refine zi_aload_n 0 d_Pa_longestDrought_23 rfl ?_
    obtain ⟨b6, eb6, h⟩ := zbind h
    refine zo_getR 27 zkd_4 0 d_Pa_longestDrought_24 eb6 rfl tw_298 rfl ?_
    refine zi_aload_n 0 d_Pa_longestDrought_27 rfl ?_
    obtain ⟨b7, eb7, h⟩ := zbind h
    refine zo_getR 31 zkd_4 1 d_Pa_longestDrought_28 eb7 rfl tw_299 rfl ?_
    refine zi_iload_n 1 d_Pa_longestDrought_31 rfl ?_
    obtain ⟨u8, eu8, h⟩ := zbind h
    obtain ⟨q9, eq9, h⟩ := zbind h
    refine zo_virt (k' := 0) (n' := 0) 35 [.ref b7, .int x2] [] [.int q9.1] zkd_1 (zck_s eu8) (C_Ju_threadsOn n E S b6 b7 x2 M q9.1 q9.2 eq9) d_Pa_longestDrought_32 tw_514 tw_985 tw_512 tw_513 tw_8 dd_Ju_threadsOn ⟨Nat.le_of_ble_eq_true rfl, Nat.le_of_ble_eq_true rfl, Nat.le_of_ble_eq_true rfl, Nat.le_of_ble_eq_true rfl⟩ (Nat.le_of_ble_eq_true rfl) rfl rfl rfl rfl ?_
    refine zi_if_ne (tgt := 45) d_Pa_longestDrought_35 rfl (fun c10 => ?_) (fun c10 => ?_)
    · rw [if_neg c10] at h
      refine zi_iconst 0 d_Pa_longestDrought_45 rfl ?_
      refine zi_lo [(0, .ref a0), (2, .int x2), (3, .int x3), (5, .int x5)] [0, 1, 2, 4] rfl ?_
      exact K_Pa_longestDrought_b46 n E S r16 a0 x2 x3 x5 0 q9.2 r M' hr16 h
    · rw [if_pos c10] at h
      refine zi_iload 3 d_Pa_longestDrought_38 rfl ?_
      refine zi_iconst 1 d_Pa_longestDrought_40 rfl ?_
      refine zi_iadd d_Pa_longestDrought_41 ?_
      refine zi_goto (tgt := 46) d_Pa_longestDrought_42 rfl ?_
      refine zi_lo [(0, .ref a0), (2, .int x2), (3, .int x3), (5, .int x5)] [0, 1, 2, 4] rfl ?_
      exact K_Pa_longestDrought_b46 n E S r16 a0 x2 x3 x5 (x4 + 1) q9.2 r M' hr16 h
theorem K_Pa_longestDrought_b16 (n : Nat) (E : zE) (S : zS) (a0 : Nat) (x2 : Int32) (x3 : Int32) (x4 : Int32) (x5 : Int32) (M : zH) (r : Int32) (M' : zH)  (h : F_Pa_longestDrought_b16 n E S (a0, x2, x3, x4, x5, M) = some (r, M')) : zG E Y_Pa_longestDrought (some (.int r), S, M') 16 [(0, .ref a0), (2, .int x2), (3, .int x3), (4, .int x4), (5, .int x5)] [] S M 0 0 := by
  have key : ∀ (k : Nat) (a0 : Nat) (x2 : Int32) (x3 : Int32) (x4 : Int32) (x5 : Int32) (M : zH), zfix (fun r16 s => F_Pa_longestDrought_L16 n E S r16 s.1 s.2.1 s.2.2.1 s.2.2.2.1 s.2.2.2.2.1 s.2.2.2.2.2) k (a0, x2, x3, x4, x5, M) = some (r, M') → zG E Y_Pa_longestDrought (some (.int r), S, M') 16 [(0, .ref a0), (2, .int x2), (3, .int x3), (4, .int x4), (5, .int x5)] [] S M 0 0 := by
    intro k
    induction k with
    | zero => intro a0 x2 x3 x4 x5 M h; cases h
    | succ k ih => intro a0 x2 x3 x4 x5 M h; exact K_Pa_longestDrought_L16 n E S _ a0 x2 x3 x4 x5 M r M'  (fun a0 x2 x3 x4 x5 M h => ih a0 x2 x3 x4 x5 M h) h
  exact key n a0 x2 x3 x4 x5 M h
theorem K_Pa_longestDrought (n : Nat) (E : zE) (S : zS) (a0 : Nat) (a1 : Nat) (x2 : Int32) (M : zH) (r : Int32) (M' : zH)  (h : F_Pa_longestDrought n E S a0 a1 x2 M = some (r, M')) : zG E Y_Pa_longestDrought (some (.int r), S, M') 0 [(0, .ref a0), (1, .ref a1), (2, .int x2)] [] S M 0 0 := by
  unfold F_Pa_longestDrought at h
  refine zi_aload_n 0 d_Pa_longestDrought_0 rfl ?_
  obtain ⟨b11, eb11, h⟩ := zbind h
  refine zo_getR 4 zkd_4 1 d_Pa_longestDrought_1 eb11 rfl tw_299 rfl ?_
  refine zi_aload_n 1 d_Pa_longestDrought_4 rfl ?_
  obtain ⟨u12, eu12, h⟩ := zbind h
  obtain ⟨q13, eq13, h⟩ := zbind h
  refine zo_virt (k' := 0) (n' := 0) 8 [.ref a1] [] [] zkd_3 (zck_s eu12) (C_Ni_copyFrom n E S b11 a1 M q13 eq13) d_Pa_longestDrought_5 tw_867 tw_984 tw_865 tw_866 tw_2 dd_Ni_copyFrom ⟨Nat.le_of_ble_eq_true rfl, Nat.le_of_ble_eq_true rfl, Nat.le_of_ble_eq_true rfl, Nat.le_of_ble_eq_true rfl⟩ (Nat.le_of_ble_eq_true rfl) rfl rfl rfl rfl ?_
  refine zi_iconst 0 d_Pa_longestDrought_8 rfl ?_
  refine zi_istore_n [(3, .int 0), (0, .ref a0), (1, .ref a1), (2, .int x2)] d_Pa_longestDrought_9 (by decide) rfl ?_
  refine zi_iconst 0 d_Pa_longestDrought_10 rfl ?_
  refine zi_istore [(4, .int 0), (3, .int 0), (0, .ref a0), (1, .ref a1), (2, .int x2)] d_Pa_longestDrought_11 (by decide) rfl ?_
  refine zi_iconst 0 d_Pa_longestDrought_13 rfl ?_
  refine zi_istore [(5, .int 0), (4, .int 0), (3, .int 0), (0, .ref a0), (1, .ref a1), (2, .int x2)] d_Pa_longestDrought_14 (by decide) rfl ?_
  refine zi_lo [(0, .ref a0), (2, .int x2), (3, .int 0), (4, .int 0), (5, .int 0)] [3, 5, 2, 1, 0] rfl ?_
  exact K_Pa_longestDrought_b16 n E S a0 x2 0 0 0 q13 r M'  h
theorem C_Pa_longestDrought (n : Nat) (E : zE) (S : zS) (a0 : Nat) (a1 : Nat) (x2 : Int32) (M : zH) (r : Int32) (M' : zH) (h : F_Pa_longestDrought n E S a0 a1 x2 M = some (r, M')) : zC E Y_Pa_longestDrought [.ref a0, .ref a1, .int x2] S M (some (.int r), S, M') :=
  zC.of (Or.inl (show plainName "NightColander$Paper" = true by decide)) (Nat.le_of_ble_eq_true rfl) (trivial) (K_Pa_longestDrought n E S a0 a1 x2 M r M' h)
theorem d_NC_drought_0 : decode (yB Y_NC_drought) 0 = .ok (.iload_n 1, 1) := by decide +kernel
theorem d_NC_drought_1 : decode (yB Y_NC_drought) 1 = .ok (.invokestatic 149, 3) := by decide +kernel
theorem d_NC_drought_4 : decode (yB Y_NC_drought) 4 = .ok (.ifCond .eq 18, 3) := by decide +kernel
theorem d_NC_drought_7 : decode (yB Y_NC_drought) 7 = .ok (.aload_n 0, 1) := by decide +kernel
theorem d_NC_drought_8 : decode (yB Y_NC_drought) 8 = .ok (.getfield 86, 3) := by decide +kernel
theorem d_NC_drought_11 : decode (yB Y_NC_drought) 11 = .ok (.aload_n 0, 1) := by decide +kernel
theorem d_NC_drought_12 : decode (yB Y_NC_drought) 12 = .ok (.getfield 12, 3) := by decide +kernel
theorem d_NC_drought_15 : decode (yB Y_NC_drought) 15 = .ok (.iload_n 1, 1) := by decide +kernel
theorem d_NC_drought_16 : decode (yB Y_NC_drought) 16 = .ok (.invokevirtual 296, 3) := by decide +kernel
theorem d_NC_drought_19 : decode (yB Y_NC_drought) 19 = .ok (.goto 4, 3) := by decide +kernel
theorem d_NC_drought_22 : decode (yB Y_NC_drought) 22 = .ok (.iconst (-1), 1) := by decide +kernel
theorem d_NC_drought_23 : decode (yB Y_NC_drought) 23 = .ok (.ireturn, 1) := by decide +kernel
def F_NC_drought (n : Nat) (E : zE) (S : zS) (a0 : Nat) (x1 : Int32) (M : zH) : Option (Int32 × zH) :=
  (F_NC_isField n E S x1 M).bind fun q1 =>
  if q1.1 = true then
    (zgR S a0 10 12).bind fun b3 =>
    (zgR S a0 10 0).bind fun b4 =>
    (zck S b3 4).bind fun u5 =>
    (F_Pa_longestDrought n E S b3 b4 x1 q1.2).bind fun q6 =>
    some (q6.1, q6.2)
  else
    some ((-1), q1.2)
theorem K_NC_drought (n : Nat) (E : zE) (S : zS) (a0 : Nat) (x1 : Int32) (M : zH) (r : Int32) (M' : zH)  (h : F_NC_drought n E S a0 x1 M = some (r, M')) : zG E Y_NC_drought (some (.int r), S, M') 0 [(0, .ref a0), (1, .int x1)] [] S M 0 0 := by
  unfold F_NC_drought at h
  refine zi_iload_n 1 d_NC_drought_0 rfl ?_
  obtain ⟨q1, eq1, h⟩ := zbind h
  refine zo_stat (k' := 0) (n' := 0) 4 [.int x1] [] [.int (bI q1.1)] (C_NC_isField n E S x1 M q1.1 q1.2 eq1) d_NC_drought_1 tw_465 tw_463 tw_464 tw_1 dd_NC_isField ⟨Nat.le_of_ble_eq_true rfl, Nat.le_of_ble_eq_true rfl, Nat.le_of_ble_eq_true rfl, Nat.le_of_ble_eq_true rfl⟩ (Nat.le_of_ble_eq_true rfl) rfl rfl rfl rfl ?_
  refine zo_ifeqB d_NC_drought_4 rfl 7 rfl (fun c2 => ?_) (fun c2 => ?_)
  · rw [if_neg c2] at h
    refine zi_iconst (-1) d_NC_drought_22 rfl ?_
    cases h
    exact zo_ret d_NC_drought_23 (Nat.le_of_ble_eq_true rfl) (Nat.le_of_ble_eq_true rfl) rfl
  · rw [if_pos c2] at h
    refine zi_aload_n 0 d_NC_drought_7 rfl ?_
    obtain ⟨b3, eb3, h⟩ := zbind h
    refine zo_getR 11 zkd_10 12 d_NC_drought_8 eb3 rfl tw_344 rfl ?_
    refine zi_aload_n 0 d_NC_drought_11 rfl ?_
    obtain ⟨b4, eb4, h⟩ := zbind h
    refine zo_getR 15 zkd_10 0 d_NC_drought_12 eb4 rfl tw_332 rfl ?_
    refine zi_iload_n 1 d_NC_drought_15 rfl ?_
    obtain ⟨u5, eu5, h⟩ := zbind h
    obtain ⟨q6, eq6, h⟩ := zbind h
    refine zo_virt (k' := 0) (n' := 0) 19 [.ref b4, .int x1] [] [.int q6.1] zkd_4 (zck_s eu5) (C_Pa_longestDrought n E S b3 b4 x1 q1.2 q6.1 q6.2 eq6) d_NC_drought_16 tw_1119 tw_1116 tw_1117 tw_1118 tw_12 dd_Pa_longestDrought ⟨Nat.le_of_ble_eq_true rfl, Nat.le_of_ble_eq_true rfl, Nat.le_of_ble_eq_true rfl, Nat.le_of_ble_eq_true rfl⟩ (Nat.le_of_ble_eq_true rfl) rfl rfl rfl rfl ?_
    refine zi_goto (tgt := 23) d_NC_drought_19 rfl ?_
    cases h
    exact zo_ret d_NC_drought_23 (Nat.le_of_ble_eq_true rfl) (Nat.le_of_ble_eq_true rfl) rfl
theorem C_NC_drought (n : Nat) (E : zE) (S : zS) (a0 : Nat) (x1 : Int32) (M : zH) (r : Int32) (M' : zH) (h : F_NC_drought n E S a0 x1 M = some (r, M')) : zC E Y_NC_drought [.ref a0, .int x1] S M (some (.int r), S, M') :=
  zC.of (Or.inl (show plainName "NightColander" = true by decide)) (Nat.le_of_ble_eq_true rfl) (trivial) (K_NC_drought n E S a0 x1 M r M' h)
theorem d_NC_luck_0 : decode (yB Y_NC_luck) 0 = .ok (.iload_n 1, 1) := by decide +kernel
theorem d_NC_luck_1 : decode (yB Y_NC_luck) 1 = .ok (.invokestatic 149, 3) := by decide +kernel
theorem d_NC_luck_4 : decode (yB Y_NC_luck) 4 = .ok (.ifCond .ne 5, 3) := by decide +kernel
theorem d_NC_luck_7 : decode (yB Y_NC_luck) 7 = .ok (.iconst (-1), 1) := by decide +kernel
theorem d_NC_luck_8 : decode (yB Y_NC_luck) 8 = .ok (.ireturn, 1) := by decide +kernel
theorem d_NC_luck_9 : decode (yB Y_NC_luck) 9 = .ok (.aload_n 0, 1) := by decide +kernel
theorem d_NC_luck_10 : decode (yB Y_NC_luck) 10 = .ok (.getfield 61, 3) := by decide +kernel
theorem d_NC_luck_13 : decode (yB Y_NC_luck) 13 = .ok (.aload_n 0, 1) := by decide +kernel
theorem d_NC_luck_14 : decode (yB Y_NC_luck) 14 = .ok (.getfield 12, 3) := by decide +kernel
theorem d_NC_luck_17 : decode (yB Y_NC_luck) 17 = .ok (.iload_n 1, 1) := by decide +kernel
theorem d_NC_luck_18 : decode (yB Y_NC_luck) 18 = .ok (.invokevirtual 186, 3) := by decide +kernel
theorem d_NC_luck_21 : decode (yB Y_NC_luck) 21 = .ok (.istore_n 2, 1) := by decide +kernel
theorem d_NC_luck_22 : decode (yB Y_NC_luck) 22 = .ok (.iconst 0, 1) := by decide +kernel
theorem d_NC_luck_23 : decode (yB Y_NC_luck) 23 = .ok (.istore_n 3, 1) := by decide +kernel
theorem d_NC_luck_24 : decode (yB Y_NC_luck) 24 = .ok (.iconst 0, 1) := by decide +kernel
theorem d_NC_luck_25 : decode (yB Y_NC_luck) 25 = .ok (.istore 4, 2) := by decide +kernel
theorem d_NC_luck_27 : decode (yB Y_NC_luck) 27 = .ok (.iload 4, 2) := by decide +kernel
theorem d_NC_luck_29 : decode (yB Y_NC_luck) 29 = .ok (.bipush 8, 2) := by decide +kernel
theorem d_NC_luck_31 : decode (yB Y_NC_luck) 31 = .ok (.if_icmp .ge 29, 3) := by decide +kernel
theorem d_NC_luck_34 : decode (yB Y_NC_luck) 34 = .ok (.aload_n 0, 1) := by decide +kernel
theorem d_NC_luck_35 : decode (yB Y_NC_luck) 35 = .ok (.getfield 61, 3) := by decide +kernel
theorem d_NC_luck_38 : decode (yB Y_NC_luck) 38 = .ok (.aload_n 0, 1) := by decide +kernel
theorem d_NC_luck_39 : decode (yB Y_NC_luck) 39 = .ok (.getfield 12, 3) := by decide +kernel
theorem d_NC_luck_42 : decode (yB Y_NC_luck) 42 = .ok (.iload 4, 2) := by decide +kernel
theorem d_NC_luck_44 : decode (yB Y_NC_luck) 44 = .ok (.invokevirtual 186, 3) := by decide +kernel
theorem d_NC_luck_47 : decode (yB Y_NC_luck) 47 = .ok (.iload_n 2, 1) := by decide +kernel
theorem d_NC_luck_48 : decode (yB Y_NC_luck) 48 = .ok (.if_icmp .ge 6, 3) := by decide +kernel
theorem d_NC_luck_51 : decode (yB Y_NC_luck) 51 = .ok (.iinc 3 1, 3) := by decide +kernel
theorem d_NC_luck_54 : decode (yB Y_NC_luck) 54 = .ok (.iinc 4 1, 3) := by decide +kernel
theorem d_NC_luck_57 : decode (yB Y_NC_luck) 57 = .ok (.goto (-30), 3) := by decide +kernel
theorem d_NC_luck_60 : decode (yB Y_NC_luck) 60 = .ok (.iload_n 3, 1) := by decide +kernel
theorem d_NC_luck_61 : decode (yB Y_NC_luck) 61 = .ok (.ireturn, 1) := by decide +kernel
def F_NC_luck_b54 (n : Nat) (E : zE) (S : zS) (r27 : Nat × Int32 × Int32 × Int32 × zH → Option (Int32 × zH)) (a0 : Nat) (x2 : Int32) (x3 : Int32) (x4 : Int32) (M : zH) : Option (Int32 × zH) :=
  r27 (a0, x2, x3, x4 + 1, M)
def F_NC_luck_L27 (n : Nat) (E : zE) (S : zS) (r27 : Nat × Int32 × Int32 × Int32 × zH → Option (Int32 × zH)) (a0 : Nat) (x2 : Int32) (x3 : Int32) (x4 : Int32) (M : zH) : Option (Int32 × zH) :=
  if 8 ≤ x4 then
    some (x3, M)
  else
    (zgR S a0 10 9).bind fun b2 =>
    (zgR S a0 10 0).bind fun b3 =>
    (zck S b2 1).bind fun u4 =>
    (F_Ju_threadsOn n E S b2 b3 x4 M).bind fun q5 =>
    if x2 ≤ q5.1 then
      F_NC_luck_b54 n E S r27 a0 x2 x3 x4 q5.2
    else
      F_NC_luck_b54 n E S r27 a0 x2 (x3 + 1) x4 q5.2
def F_NC_luck_b27 (n : Nat) (E : zE) (S : zS) : Nat × Int32 × Int32 × Int32 × zH → Option (Int32 × zH) := zfix (fun r27 s => F_NC_luck_L27 n E S r27 s.1 s.2.1 s.2.2.1 s.2.2.2.1 s.2.2.2.2) n
def F_NC_luck (n : Nat) (E : zE) (S : zS) (a0 : Nat) (x1 : Int32) (M : zH) : Option (Int32 × zH) :=
  (F_NC_isField n E S x1 M).bind fun q7 =>
  if q7.1 = true then
    (zgR S a0 10 9).bind fun b9 =>
    (zgR S a0 10 0).bind fun b10 =>
    (zck S b9 1).bind fun u11 =>
    (F_Ju_threadsOn n E S b9 b10 x1 q7.2).bind fun q12 =>
    F_NC_luck_b27 n E S (a0, q12.1, 0, 0, q12.2)
  else
    some ((-1), q7.2)
theorem K_NC_luck_b54 (n : Nat) (E : zE) (S : zS) (r27 : Nat × Int32 × Int32 × Int32 × zH → Option (Int32 × zH)) (a0 : Nat) (x2 : Int32) (x3 : Int32) (x4 : Int32) (M : zH) (r : Int32) (M' : zH) (hr27 : ∀ (a0 : Nat) (x2 : Int32) (x3 : Int32) (x4 : Int32) (M : zH), r27 (a0, x2, x3, x4, M) = some (r, M') → zG E Y_NC_luck (some (.int r), S, M') 27 [(0, .ref a0), (2, .int x2), (3, .int x3), (4, .int x4)] [] S M 0 0) (h : F_NC_luck_b54 n E S r27 a0 x2 x3 x4 M = some (r, M')) : zG E Y_NC_luck (some (.int r), S, M') 54 [(0, .ref a0), (2, .int x2), (3, .int x3), (4, .int x4)] [] S M 0 0 := by
  unfold F_NC_luck_b54 at h
  refine zi_iinc 3 (x4 + 1) [(4, .int (x4 + 1)), (0, .ref a0), (2, .int x2), (3, .int x3)] d_NC_luck_54 rfl rfl (by decide) rfl ?_
  refine zi_goto (tgt := 27) d_NC_luck_57 rfl ?_
  refine zi_lo [(0, .ref a0), (2, .int x2), (3, .int x3), (4, .int (x4 + 1))] [1, 2, 3, 0] rfl ?_
  exact hr27 a0 x2 x3 (x4 + 1) M h
theorem K_NC_luck_L27 (n : Nat) (E : zE) (S : zS) (r27 : Nat × Int32 × Int32 × Int32 × zH → Option (Int32 × zH)) (a0 : Nat) (x2 : Int32) (x3 : Int32) (x4 : Int32) (M : zH) (r : Int32) (M' : zH) (hr27 : ∀ (a0 : Nat) (x2 : Int32) (x3 : Int32) (x4 : Int32) (M : zH), r27 (a0, x2, x3, x4, M) = some (r, M') → zG E Y_NC_luck (some (.int r), S, M') 27 [(0, .ref a0), (2, .int x2), (3, .int x3), (4, .int x4)] [] S M 0 0) (h : F_NC_luck_L27 n E S r27 a0 x2 x3 x4 M = some (r, M')) : zG E Y_NC_luck (some (.int r), S, M') 27 [(0, .ref a0), (2, .int x2), (3, .int x3), (4, .int x4)] [] S M 0 0 := by
  unfold F_NC_luck_L27 at h
  refine zi_iload 3 d_NC_luck_27 rfl ?_
  refine zi_bipush 8 d_NC_luck_29 rfl ?_
  refine zi_icmp_ge (tgt := 60) d_NC_luck_31 rfl (fun c1 => ?_) (fun c1 => ?_)
  · rw [if_pos c1] at h
    refine zi_iload_n 2 d_NC_luck_60 rfl ?_
    cases h
    exact zo_ret d_NC_luck_61 (Nat.le_of_ble_eq_true rfl) (Nat.le_of_ble_eq_true rfl) rfl
  · rw [if_neg c1] at h
    refine zi_aload_n 0 d_NC_luck_34 rfl ?_
    obtain ⟨b2, eb2, h⟩ := zbind h
    refine zo_getR 38 zkd_10 9 d_NC_luck_35 eb2 rfl tw_341 rfl ?_
    refine zi_aload_n 0 d_NC_luck_38 rfl ?_
    obtain ⟨b3, eb3, h⟩ := zbind h
    refine zo_getR 42 zkd_10 0 d_NC_luck_39 eb3 rfl tw_332 rfl ?_
    refine zi_iload 3 d_NC_luck_42 rfl ?_
    obtain ⟨u4, eu4, h⟩ := zbind h
    obtain ⟨q5, eq5, h⟩ := zbind h
    refine zo_virt (k' := 0) (n' := 0) 47 [.ref b3, .int x4] [] [.int q5.1] zkd_1 (zck_s eu4) (C_Ju_threadsOn n E S b2 b3 x4 M q5.1 q5.2 eq5) d_NC_luck_44 tw_514 tw_511 tw_512 tw_513 tw_8 dd_Ju_threadsOn ⟨Nat.le_of_ble_eq_true rfl, Nat.le_of_ble_eq_true rfl, Nat.le_of_ble_eq_true rfl, Nat.le_of_ble_eq_true rfl⟩ (Nat.le_of_ble_eq_true rfl) rfl rfl rfl rfl ?_
    refine zi_iload_n 1 d_NC_luck_47 rfl ?_
    refine zi_icmp_ge (tgt := 54) d_NC_luck_48 rfl (fun c6 => ?_) (fun c6 => ?_)
    · rw [if_pos c6] at h
      refine zi_lo [(0, .ref a0), (2, .int x2), (3, .int x3), (4, .int x4)] [0, 1, 2, 3] rfl ?_
      exact K_NC_luck_b54 n E S r27 a0 x2 x3 x4 q5.2 r M' hr27 h
    · rw [if_neg c6] at h
      refine zi_iinc 2 (x3 + 1) [(3, .int (x3 + 1)), (0, .ref a0), (2, .int x2), (4, .int x4)] d_NC_luck_51 rfl rfl (by decide) rfl ?_
      refine zi_lo [(0, .ref a0), (2, .int x2), (3, .int (x3 + 1)), (4, .int x4)] [1, 2, 0, 3] rfl ?_
      exact K_NC_luck_b54 n E S r27 a0 x2 (x3 + 1) x4 q5.2 r M' hr27 h
theorem K_NC_luck_b27 (n : Nat) (E : zE) (S : zS) (a0 : Nat) (x2 : Int32) (x3 : Int32) (x4 : Int32) (M : zH) (r : Int32) (M' : zH)  (h : F_NC_luck_b27 n E S (a0, x2, x3, x4, M) = some (r, M')) : zG E Y_NC_luck (some (.int r), S, M') 27 [(0, .ref a0), (2, .int x2), (3, .int x3), (4, .int x4)] [] S M 0 0 := by
  have key : ∀ (k : Nat) (a0 : Nat) (x2 : Int32) (x3 : Int32) (x4 : Int32) (M : zH), zfix (fun r27 s => F_NC_luck_L27 n E S r27 s.1 s.2.1 s.2.2.1 s.2.2.2.1 s.2.2.2.2) k (a0, x2, x3, x4, M) = some (r, M') → zG E Y_NC_luck (some (.int r), S, M') 27 [(0, .ref a0), (2, .int x2), (3, .int x3), (4, .int x4)] [] S M 0 0 := by
    intro k
    induction k with
    | zero => intro a0 x2 x3 x4 M h; cases h
    | succ k ih => intro a0 x2 x3 x4 M h; exact K_NC_luck_L27 n E S _ a0 x2 x3 x4 M r M'  (fun a0 x2 x3 x4 M h => ih a0 x2 x3 x4 M h) h
  exact key n a0 x2 x3 x4 M h
theorem K_NC_luck (n : Nat) (E : zE) (S : zS) (a0 : Nat) (x1 : Int32) (M : zH) (r : Int32) (M' : zH)  (h : F_NC_luck n E S a0 x1 M = some (r, M')) : zG E Y_NC_luck (some (.int r), S, M') 0 [(0, .ref a0), (1, .int x1)] [] S M 0 0 := by
  unfold F_NC_luck at h
  refine zi_iload_n 1 d_NC_luck_0 rfl ?_
  obtain ⟨q7, eq7, h⟩ := zbind h
  refine zo_stat (k' := 0) (n' := 0) 4 [.int x1] [] [.int (bI q7.1)] (C_NC_isField n E S x1 M q7.1 q7.2 eq7) d_NC_luck_1 tw_465 tw_463 tw_464 tw_1 dd_NC_isField ⟨Nat.le_of_ble_eq_true rfl, Nat.le_of_ble_eq_true rfl, Nat.le_of_ble_eq_true rfl, Nat.le_of_ble_eq_true rfl⟩ (Nat.le_of_ble_eq_true rfl) rfl rfl rfl rfl ?_
  refine zo_ifneB d_NC_luck_4 rfl 7 rfl (fun c8 => ?_) (fun c8 => ?_)
  · rw [if_pos c8] at h
    refine zi_aload_n 0 d_NC_luck_9 rfl ?_
    obtain ⟨b9, eb9, h⟩ := zbind h
    refine zo_getR 13 zkd_10 9 d_NC_luck_10 eb9 rfl tw_341 rfl ?_
    refine zi_aload_n 0 d_NC_luck_13 rfl ?_
    obtain ⟨b10, eb10, h⟩ := zbind h
    refine zo_getR 17 zkd_10 0 d_NC_luck_14 eb10 rfl tw_332 rfl ?_
    refine zi_iload_n 1 d_NC_luck_17 rfl ?_
    obtain ⟨u11, eu11, h⟩ := zbind h
    obtain ⟨q12, eq12, h⟩ := zbind h
    refine zo_virt (k' := 0) (n' := 0) 21 [.ref b10, .int x1] [] [.int q12.1] zkd_1 (zck_s eu11) (C_Ju_threadsOn n E S b9 b10 x1 q7.2 q12.1 q12.2 eq12) d_NC_luck_18 tw_514 tw_511 tw_512 tw_513 tw_8 dd_Ju_threadsOn ⟨Nat.le_of_ble_eq_true rfl, Nat.le_of_ble_eq_true rfl, Nat.le_of_ble_eq_true rfl, Nat.le_of_ble_eq_true rfl⟩ (Nat.le_of_ble_eq_true rfl) rfl rfl rfl rfl ?_
    refine zi_istore_n [(2, .int q12.1), (0, .ref a0), (1, .int x1)] d_NC_luck_21 (by decide) rfl ?_
    refine zi_iconst 0 d_NC_luck_22 rfl ?_
    refine zi_istore_n [(3, .int 0), (2, .int q12.1), (0, .ref a0), (1, .int x1)] d_NC_luck_23 (by decide) rfl ?_
    refine zi_iconst 0 d_NC_luck_24 rfl ?_
    refine zi_istore [(4, .int 0), (3, .int 0), (2, .int q12.1), (0, .ref a0), (1, .int x1)] d_NC_luck_25 (by decide) rfl ?_
    refine zi_lo [(0, .ref a0), (2, .int q12.1), (3, .int 0), (4, .int 0)] [3, 2, 1, 0] rfl ?_
    exact K_NC_luck_b27 n E S a0 q12.1 0 0 q12.2 r M'  h
  · rw [if_neg c8] at h
    refine zi_iconst (-1) d_NC_luck_7 rfl ?_
    cases h
    exact zo_ret d_NC_luck_8 (Nat.le_of_ble_eq_true rfl) (Nat.le_of_ble_eq_true rfl) rfl
theorem C_NC_luck (n : Nat) (E : zE) (S : zS) (a0 : Nat) (x1 : Int32) (M : zH) (r : Int32) (M' : zH) (h : F_NC_luck n E S a0 x1 M = some (r, M')) : zC E Y_NC_luck [.ref a0, .int x1] S M (some (.int r), S, M') :=
  zC.of (Or.inl (show plainName "NightColander" = true by decide)) (Nat.le_of_ble_eq_true rfl) (trivial) (K_NC_luck n E S a0 x1 M r M' h)
theorem d_NC_together_0 : decode (yB Y_NC_together) 0 = .ok (.iload_n 1, 1) := by decide +kernel
theorem d_NC_together_1 : decode (yB Y_NC_together) 1 = .ok (.invokestatic 111, 3) := by decide +kernel
theorem d_NC_together_4 : decode (yB Y_NC_together) 4 = .ok (.ifCond .eq 15, 3) := by decide +kernel
theorem d_NC_together_7 : decode (yB Y_NC_together) 7 = .ok (.iload_n 2, 1) := by decide +kernel
theorem d_NC_together_8 : decode (yB Y_NC_together) 8 = .ok (.invokestatic 111, 3) := by decide +kernel
theorem d_NC_together_11 : decode (yB Y_NC_together) 11 = .ok (.ifCond .eq 8, 3) := by decide +kernel
theorem d_NC_together_14 : decode (yB Y_NC_together) 14 = .ok (.iload_n 1, 1) := by decide +kernel
theorem d_NC_together_15 : decode (yB Y_NC_together) 15 = .ok (.iload_n 2, 1) := by decide +kernel
theorem d_NC_together_16 : decode (yB Y_NC_together) 16 = .ok (.if_icmp .ne 5, 3) := by decide +kernel
theorem d_NC_together_19 : decode (yB Y_NC_together) 19 = .ok (.iconst (-1), 1) := by decide +kernel
theorem d_NC_together_20 : decode (yB Y_NC_together) 20 = .ok (.ireturn, 1) := by decide +kernel
theorem d_NC_together_21 : decode (yB Y_NC_together) 21 = .ok (.iconst 1, 1) := by decide +kernel
theorem d_NC_together_22 : decode (yB Y_NC_together) 22 = .ok (.istore_n 3, 1) := by decide +kernel
theorem d_NC_together_23 : decode (yB Y_NC_together) 23 = .ok (.iload_n 3, 1) := by decide +kernel
theorem d_NC_together_24 : decode (yB Y_NC_together) 24 = .ok (.bipush 8, 2) := by decide +kernel
theorem d_NC_together_26 : decode (yB Y_NC_together) 26 = .ok (.if_icmp .ge 24, 3) := by decide +kernel
theorem d_NC_together_29 : decode (yB Y_NC_together) 29 = .ok (.iload_n 1, 1) := by decide +kernel
theorem d_NC_together_30 : decode (yB Y_NC_together) 30 = .ok (.iload_n 2, 1) := by decide +kernel
theorem d_NC_together_31 : decode (yB Y_NC_together) 31 = .ok (.isub, 1) := by decide +kernel
theorem d_NC_together_32 : decode (yB Y_NC_together) 32 = .ok (.iload_n 3, 1) := by decide +kernel
theorem d_NC_together_33 : decode (yB Y_NC_together) 33 = .ok (.imul, 1) := by decide +kernel
theorem d_NC_together_34 : decode (yB Y_NC_together) 34 = .ok (.bipush 8, 2) := by decide +kernel
theorem d_NC_together_36 : decode (yB Y_NC_together) 36 = .ok (.invokestatic 299, 3) := by decide +kernel
theorem d_NC_together_39 : decode (yB Y_NC_together) 39 = .ok (.ifCond .ne 5, 3) := by decide +kernel
theorem d_NC_together_42 : decode (yB Y_NC_together) 42 = .ok (.iload_n 3, 1) := by decide +kernel
theorem d_NC_together_43 : decode (yB Y_NC_together) 43 = .ok (.ireturn, 1) := by decide +kernel
theorem d_NC_together_44 : decode (yB Y_NC_together) 44 = .ok (.iinc 3 1, 3) := by decide +kernel
theorem d_NC_together_47 : decode (yB Y_NC_together) 47 = .ok (.goto (-24), 3) := by decide +kernel
theorem d_NC_together_50 : decode (yB Y_NC_together) 50 = .ok (.bipush 8, 2) := by decide +kernel
theorem d_NC_together_52 : decode (yB Y_NC_together) 52 = .ok (.ireturn, 1) := by decide +kernel
def F_NC_together_L23 (n : Nat) (E : zE) (S : zS) (r23 : Int32 × Int32 × Int32 × zH → Option (Int32 × zH)) (x1 : Int32) (x2 : Int32) (x3 : Int32) (M : zH) : Option (Int32 × zH) :=
  if 8 ≤ x3 then
    some (8, M)
  else
    (F_Jm_floorMod n E S ((x1 - x2) * x3) 8 M).bind fun q2 =>
    if q2.1 = 0 then
      some (x3, q2.2)
    else
      r23 (x1, x2, x3 + 1, q2.2)
def F_NC_together_b23 (n : Nat) (E : zE) (S : zS) : Int32 × Int32 × Int32 × zH → Option (Int32 × zH) := zfix (fun r23 s => F_NC_together_L23 n E S r23 s.1 s.2.1 s.2.2.1 s.2.2.2) n
def F_NC_together (n : Nat) (E : zE) (S : zS) (a0 : Nat) (x1 : Int32) (x2 : Int32) (M : zH) : Option (Int32 × zH) :=
  (F_NC_isRing n E S x1 M).bind fun q4 =>
  if q4.1 = true then
    (F_NC_isRing n E S x2 q4.2).bind fun q6 =>
    if q6.1 = true then
      if x1 = x2 then
        some ((-1), q6.2)
      else
        F_NC_together_b23 n E S (x1, x2, 1, q6.2)
    else
      some ((-1), q6.2)
  else
    some ((-1), q4.2)
theorem K_NC_together_L23 (n : Nat) (E : zE) (S : zS) (r23 : Int32 × Int32 × Int32 × zH → Option (Int32 × zH)) (x1 : Int32) (x2 : Int32) (x3 : Int32) (M : zH) (r : Int32) (M' : zH) (hr23 : ∀ (x1 : Int32) (x2 : Int32) (x3 : Int32) (M : zH), r23 (x1, x2, x3, M) = some (r, M') → zG E Y_NC_together (some (.int r), S, M') 23 [(1, .int x1), (2, .int x2), (3, .int x3)] [] S M 0 0) (h : F_NC_together_L23 n E S r23 x1 x2 x3 M = some (r, M')) : zG E Y_NC_together (some (.int r), S, M') 23 [(1, .int x1), (2, .int x2), (3, .int x3)] [] S M 0 0 := by
  unfold F_NC_together_L23 at h
  refine zi_iload_n 2 d_NC_together_23 rfl ?_
  refine zi_bipush 8 d_NC_together_24 rfl ?_
  refine zi_icmp_ge (tgt := 50) d_NC_together_26 rfl (fun c1 => ?_) (fun c1 => ?_)
  · rw [if_pos c1] at h
    refine zi_bipush 8 d_NC_together_50 rfl ?_
    cases h
    exact zo_ret d_NC_together_52 (Nat.le_of_ble_eq_true rfl) (Nat.le_of_ble_eq_true rfl) rfl
  · rw [if_neg c1] at h
    refine zi_iload_n 0 d_NC_together_29 rfl ?_
    refine zi_iload_n 1 d_NC_together_30 rfl ?_
    refine zi_isub d_NC_together_31 ?_
    refine zi_iload_n 2 d_NC_together_32 rfl ?_
    refine zi_imul d_NC_together_33 ?_
    refine zi_bipush 8 d_NC_together_34 rfl ?_
    obtain ⟨q2, eq2, h⟩ := zbind h
    refine zo_stat (k' := 0) (n' := 0) 39 [.int ((x1 - x2) * x3), .int 8] [] [.int q2.1] (C_Jm_floorMod n E S ((x1 - x2) * x3) 8 M q2.1 q2.2 eq2) d_NC_together_36 tw_409 tw_1128 tw_408 tw_14 dd_Jm_floorMod ⟨Nat.le_of_ble_eq_true rfl, Nat.le_of_ble_eq_true rfl, Nat.le_of_ble_eq_true rfl, Nat.le_of_ble_eq_true rfl⟩ (Nat.le_of_ble_eq_true rfl) rfl rfl rfl rfl ?_
    refine zi_if_ne (tgt := 44) d_NC_together_39 rfl (fun c3 => ?_) (fun c3 => ?_)
    · rw [if_neg c3] at h
      refine zi_iinc 2 (x3 + 1) [(3, .int (x3 + 1)), (1, .int x1), (2, .int x2)] d_NC_together_44 rfl rfl (by decide) rfl ?_
      refine zi_goto (tgt := 23) d_NC_together_47 rfl ?_
      refine zi_lo [(1, .int x1), (2, .int x2), (3, .int (x3 + 1))] [1, 2, 0] rfl ?_
      exact hr23 x1 x2 (x3 + 1) q2.2 h
    · rw [if_pos c3] at h
      refine zi_iload_n 2 d_NC_together_42 rfl ?_
      cases h
      exact zo_ret d_NC_together_43 (Nat.le_of_ble_eq_true rfl) (Nat.le_of_ble_eq_true rfl) rfl
theorem K_NC_together_b23 (n : Nat) (E : zE) (S : zS) (x1 : Int32) (x2 : Int32) (x3 : Int32) (M : zH) (r : Int32) (M' : zH)  (h : F_NC_together_b23 n E S (x1, x2, x3, M) = some (r, M')) : zG E Y_NC_together (some (.int r), S, M') 23 [(1, .int x1), (2, .int x2), (3, .int x3)] [] S M 0 0 := by
  have key : ∀ (k : Nat) (x1 : Int32) (x2 : Int32) (x3 : Int32) (M : zH), zfix (fun r23 s => F_NC_together_L23 n E S r23 s.1 s.2.1 s.2.2.1 s.2.2.2) k (x1, x2, x3, M) = some (r, M') → zG E Y_NC_together (some (.int r), S, M') 23 [(1, .int x1), (2, .int x2), (3, .int x3)] [] S M 0 0 := by
    intro k
    induction k with
    | zero => intro x1 x2 x3 M h; cases h
    | succ k ih => intro x1 x2 x3 M h; exact K_NC_together_L23 n E S _ x1 x2 x3 M r M'  (fun x1 x2 x3 M h => ih x1 x2 x3 M h) h
  exact key n x1 x2 x3 M h
theorem K_NC_together (n : Nat) (E : zE) (S : zS) (a0 : Nat) (x1 : Int32) (x2 : Int32) (M : zH) (r : Int32) (M' : zH)  (h : F_NC_together n E S a0 x1 x2 M = some (r, M')) : zG E Y_NC_together (some (.int r), S, M') 0 [(0, .ref a0), (1, .int x1), (2, .int x2)] [] S M 0 0 := by
  unfold F_NC_together at h
  refine zi_iload_n 1 d_NC_together_0 rfl ?_
  obtain ⟨q4, eq4, h⟩ := zbind h
  refine zo_stat (k' := 0) (n' := 0) 4 [.int x1] [] [.int (bI q4.1)] (C_NC_isRing n E S x1 M q4.1 q4.2 eq4) d_NC_together_1 tw_396 tw_394 tw_395 tw_1 dd_NC_isRing ⟨Nat.le_of_ble_eq_true rfl, Nat.le_of_ble_eq_true rfl, Nat.le_of_ble_eq_true rfl, Nat.le_of_ble_eq_true rfl⟩ (Nat.le_of_ble_eq_true rfl) rfl rfl rfl rfl ?_
  refine zo_ifeqB d_NC_together_4 rfl 7 rfl (fun c5 => ?_) (fun c5 => ?_)
  · rw [if_neg c5] at h
    refine zi_iconst (-1) d_NC_together_19 rfl ?_
    cases h
    exact zo_ret d_NC_together_20 (Nat.le_of_ble_eq_true rfl) (Nat.le_of_ble_eq_true rfl) rfl
  · rw [if_pos c5] at h
    refine zi_iload_n 2 d_NC_together_7 rfl ?_
    obtain ⟨q6, eq6, h⟩ := zbind h
    refine zo_stat (k' := 0) (n' := 0) 11 [.int x2] [] [.int (bI q6.1)] (C_NC_isRing n E S x2 q4.2 q6.1 q6.2 eq6) d_NC_together_8 tw_396 tw_394 tw_395 tw_1 dd_NC_isRing ⟨Nat.le_of_ble_eq_true rfl, Nat.le_of_ble_eq_true rfl, Nat.le_of_ble_eq_true rfl, Nat.le_of_ble_eq_true rfl⟩ (Nat.le_of_ble_eq_true rfl) rfl rfl rfl rfl ?_
    refine zo_ifeqB d_NC_together_11 rfl 14 rfl (fun c7 => ?_) (fun c7 => ?_)
    · rw [if_neg c7] at h
      refine zi_iconst (-1) d_NC_together_19 rfl ?_
      cases h
      exact zo_ret d_NC_together_20 (Nat.le_of_ble_eq_true rfl) (Nat.le_of_ble_eq_true rfl) rfl
    · rw [if_pos c7] at h
      refine zi_iload_n 1 d_NC_together_14 rfl ?_
      refine zi_iload_n 2 d_NC_together_15 rfl ?_
      refine zi_icmp_ne (tgt := 21) d_NC_together_16 rfl (fun c8 => ?_) (fun c8 => ?_)
      · rw [if_neg c8] at h
        refine zi_iconst 1 d_NC_together_21 rfl ?_
        refine zi_istore_n [(3, .int 1), (0, .ref a0), (1, .int x1), (2, .int x2)] d_NC_together_22 (by decide) rfl ?_
        refine zi_lo [(1, .int x1), (2, .int x2), (3, .int 1)] [2, 3, 0] rfl ?_
        exact K_NC_together_b23 n E S x1 x2 1 q6.2 r M'  h
      · rw [if_pos c8] at h
        refine zi_iconst (-1) d_NC_together_19 rfl ?_
        cases h
        exact zo_ret d_NC_together_20 (Nat.le_of_ble_eq_true rfl) (Nat.le_of_ble_eq_true rfl) rfl
theorem C_NC_together (n : Nat) (E : zE) (S : zS) (a0 : Nat) (x1 : Int32) (x2 : Int32) (M : zH) (r : Int32) (M' : zH) (h : F_NC_together n E S a0 x1 x2 M = some (r, M')) : zC E Y_NC_together [.ref a0, .int x1, .int x2] S M (some (.int r), S, M') :=
  zC.of (Or.inl (show plainName "NightColander" = true by decide)) (Nat.le_of_ble_eq_true rfl) (trivial) (K_NC_together n E S a0 x1 x2 M r M' h)
theorem d_NC_settled_0 : decode (yB Y_NC_settled) 0 = .ok (.aload_n 0, 1) := by decide +kernel
theorem d_NC_settled_1 : decode (yB Y_NC_settled) 1 = .ok (.getfield 12, 3) := by decide +kernel
theorem d_NC_settled_4 : decode (yB Y_NC_settled) 4 = .ok (.iload_n 1, 1) := by decide +kernel
theorem d_NC_settled_5 : decode (yB Y_NC_settled) 5 = .ok (.invokevirtual 161, 3) := by decide +kernel
theorem d_NC_settled_8 : decode (yB Y_NC_settled) 8 = .ok (.ifCond .ne 5, 3) := by decide +kernel
theorem d_NC_settled_11 : decode (yB Y_NC_settled) 11 = .ok (.iconst (-1), 1) := by decide +kernel
theorem d_NC_settled_12 : decode (yB Y_NC_settled) 12 = .ok (.ireturn, 1) := by decide +kernel
theorem d_NC_settled_13 : decode (yB Y_NC_settled) 13 = .ok (.iload_n 1, 1) := by decide +kernel
theorem d_NC_settled_14 : decode (yB Y_NC_settled) 14 = .ok (.ifCond .ne 15, 3) := by decide +kernel
theorem d_NC_settled_17 : decode (yB Y_NC_settled) 17 = .ok (.aload_n 0, 1) := by decide +kernel
theorem d_NC_settled_18 : decode (yB Y_NC_settled) 18 = .ok (.getfield 12, 3) := by decide +kernel
theorem d_NC_settled_21 : decode (yB Y_NC_settled) 21 = .ok (.getfield 155, 3) := by decide +kernel
theorem d_NC_settled_24 : decode (yB Y_NC_settled) 24 = .ok (.iconst 1, 1) := by decide +kernel
theorem d_NC_settled_25 : decode (yB Y_NC_settled) 25 = .ok (.isub, 1) := by decide +kernel
theorem d_NC_settled_26 : decode (yB Y_NC_settled) 26 = .ok (.goto 6, 3) := by decide +kernel
theorem d_NC_settled_29 : decode (yB Y_NC_settled) 29 = .ok (.iload_n 1, 1) := by decide +kernel
theorem d_NC_settled_30 : decode (yB Y_NC_settled) 30 = .ok (.iconst 1, 1) := by decide +kernel
theorem d_NC_settled_31 : decode (yB Y_NC_settled) 31 = .ok (.isub, 1) := by decide +kernel
theorem d_NC_settled_32 : decode (yB Y_NC_settled) 32 = .ok (.istore_n 2, 1) := by decide +kernel
theorem d_NC_settled_33 : decode (yB Y_NC_settled) 33 = .ok (.aload_n 0, 1) := by decide +kernel
theorem d_NC_settled_34 : decode (yB Y_NC_settled) 34 = .ok (.getfield 12, 3) := by decide +kernel
theorem d_NC_settled_37 : decode (yB Y_NC_settled) 37 = .ok (.getfield 167, 3) := by decide +kernel
theorem d_NC_settled_40 : decode (yB Y_NC_settled) 40 = .ok (.iload_n 1, 1) := by decide +kernel
theorem d_NC_settled_41 : decode (yB Y_NC_settled) 41 = .ok (.iaload, 1) := by decide +kernel
theorem d_NC_settled_42 : decode (yB Y_NC_settled) 42 = .ok (.aload_n 0, 1) := by decide +kernel
theorem d_NC_settled_43 : decode (yB Y_NC_settled) 43 = .ok (.getfield 12, 3) := by decide +kernel
theorem d_NC_settled_46 : decode (yB Y_NC_settled) 46 = .ok (.getfield 167, 3) := by decide +kernel
theorem d_NC_settled_49 : decode (yB Y_NC_settled) 49 = .ok (.iload_n 1, 1) := by decide +kernel
theorem d_NC_settled_50 : decode (yB Y_NC_settled) 50 = .ok (.iaload, 1) := by decide +kernel
theorem d_NC_settled_51 : decode (yB Y_NC_settled) 51 = .ok (.iconst 2, 1) := by decide +kernel
theorem d_NC_settled_52 : decode (yB Y_NC_settled) 52 = .ok (.idiv, 1) := by decide +kernel
theorem d_NC_settled_53 : decode (yB Y_NC_settled) 53 = .ok (.isub, 1) := by decide +kernel
theorem d_NC_settled_54 : decode (yB Y_NC_settled) 54 = .ok (.aload_n 0, 1) := by decide +kernel
theorem d_NC_settled_55 : decode (yB Y_NC_settled) 55 = .ok (.getfield 12, 3) := by decide +kernel
theorem d_NC_settled_58 : decode (yB Y_NC_settled) 58 = .ok (.getfield 167, 3) := by decide +kernel
theorem d_NC_settled_61 : decode (yB Y_NC_settled) 61 = .ok (.iload_n 2, 1) := by decide +kernel
theorem d_NC_settled_62 : decode (yB Y_NC_settled) 62 = .ok (.iaload, 1) := by decide +kernel
theorem d_NC_settled_63 : decode (yB Y_NC_settled) 63 = .ok (.iconst 2, 1) := by decide +kernel
theorem d_NC_settled_64 : decode (yB Y_NC_settled) 64 = .ok (.idiv, 1) := by decide +kernel
theorem d_NC_settled_65 : decode (yB Y_NC_settled) 65 = .ok (.iadd, 1) := by decide +kernel
theorem d_NC_settled_66 : decode (yB Y_NC_settled) 66 = .ok (.ireturn, 1) := by decide +kernel
def F_NC_settled_b32 (n : Nat) (E : zE) (S : zS) (a0 : Nat) (x1 : Int32) (s0 : Int32) (M : zH) : Option (Int32 × zH) :=
  (zgR S a0 10 0).bind fun b1 =>
  (zgR S b1 3 4).bind fun b2 =>
  (zldI S M b2 x1).bind fun v3 =>
  (zldI S M b2 x1).bind fun v4 =>
  (zdivI v4 2).bind fun v5 =>
  (zldI S M b2 s0).bind fun v6 =>
  (zdivI v6 2).bind fun v7 =>
  some ((v3 - v5) + v7, M)
def F_NC_settled (n : Nat) (E : zE) (S : zS) (a0 : Nat) (x1 : Int32) (M : zH) : Option (Int32 × zH) :=
  (zgR S a0 10 0).bind fun b8 =>
  (zck S b8 3).bind fun u9 =>
  (F_Ni_hasBucket n E S b8 x1 M).bind fun q10 =>
  if q10.1 = true then
    if x1 = 0 then
      (zgI S q10.2 b8 3 11).bind fun v13 =>
      F_NC_settled_b32 n E S a0 x1 (v13 - 1) q10.2
    else
      F_NC_settled_b32 n E S a0 x1 (x1 - 1) q10.2
  else
    some ((-1), q10.2)
theorem K_NC_settled_b32 (n : Nat) (E : zE) (S : zS) (a0 : Nat) (x1 : Int32) (s0 : Int32) (M : zH) (r : Int32) (M' : zH)  (h : F_NC_settled_b32 n E S a0 x1 s0 M = some (r, M')) : zG E Y_NC_settled (some (.int r), S, M') 32 [(0, .ref a0), (1, .int x1)] [.int s0] S M 0 0 := by
  unfold F_NC_settled_b32 at h
  refine zi_istore_n [(2, .int s0), (0, .ref a0), (1, .int x1)] d_NC_settled_32 (by decide) rfl ?_
  refine zi_aload_n 1 d_NC_settled_33 rfl ?_
  obtain ⟨b1, eb1, h⟩ := zbind h
  refine zo_getR 37 zkd_10 0 d_NC_settled_34 eb1 rfl tw_332 rfl ?_
  obtain ⟨b2, eb2, h⟩ := zbind h
  refine zo_getR 40 zkd_3 4 d_NC_settled_37 eb2 rfl tw_63 rfl ?_
  refine zi_iload_n 2 d_NC_settled_40 rfl ?_
  obtain ⟨v3, ev3, h⟩ := zbind h
  refine zo_iald 42 d_NC_settled_41 ev3 rfl ?_
  refine zi_aload_n 1 d_NC_settled_42 rfl ?_
  refine zo_getR 46 zkd_10 0 d_NC_settled_43 eb1 rfl tw_332 rfl ?_
  refine zo_getR 49 zkd_3 4 d_NC_settled_46 eb2 rfl tw_63 rfl ?_
  refine zi_iload_n 2 d_NC_settled_49 rfl ?_
  obtain ⟨v4, ev4, h⟩ := zbind h
  refine zo_iald 51 d_NC_settled_50 ev4 rfl ?_
  refine zi_iconst 2 d_NC_settled_51 rfl ?_
  obtain ⟨v5, ev5, h⟩ := zbind h
  refine zo_idiv 53 d_NC_settled_52 ev5 rfl ?_
  refine zi_isub d_NC_settled_53 ?_
  refine zi_aload_n 1 d_NC_settled_54 rfl ?_
  refine zo_getR 58 zkd_10 0 d_NC_settled_55 eb1 rfl tw_332 rfl ?_
  refine zo_getR 61 zkd_3 4 d_NC_settled_58 eb2 rfl tw_63 rfl ?_
  refine zi_iload_n 0 d_NC_settled_61 rfl ?_
  obtain ⟨v6, ev6, h⟩ := zbind h
  refine zo_iald 63 d_NC_settled_62 ev6 rfl ?_
  refine zi_iconst 2 d_NC_settled_63 rfl ?_
  obtain ⟨v7, ev7, h⟩ := zbind h
  refine zo_idiv 65 d_NC_settled_64 ev7 rfl ?_
  refine zi_iadd d_NC_settled_65 ?_
  cases h
  exact zo_ret d_NC_settled_66 (Nat.le_of_ble_eq_true rfl) (Nat.le_of_ble_eq_true rfl) rfl
theorem K_NC_settled (n : Nat) (E : zE) (S : zS) (a0 : Nat) (x1 : Int32) (M : zH) (r : Int32) (M' : zH)  (h : F_NC_settled n E S a0 x1 M = some (r, M')) : zG E Y_NC_settled (some (.int r), S, M') 0 [(0, .ref a0), (1, .int x1)] [] S M 0 0 := by
  unfold F_NC_settled at h
  refine zi_aload_n 0 d_NC_settled_0 rfl ?_
  obtain ⟨b8, eb8, h⟩ := zbind h
  refine zo_getR 4 zkd_10 0 d_NC_settled_1 eb8 rfl tw_332 rfl ?_
  refine zi_iload_n 1 d_NC_settled_4 rfl ?_
  obtain ⟨u9, eu9, h⟩ := zbind h
  obtain ⟨q10, eq10, h⟩ := zbind h
  refine zo_virt (k' := 0) (n' := 0) 8 [.int x1] [] [.int (bI q10.1)] zkd_3 (zck_s eu9) (C_Ni_hasBucket n E S b8 x1 M q10.1 q10.2 eq10) d_NC_settled_5 tw_481 tw_478 tw_479 tw_480 tw_2 dd_Ni_hasBucket ⟨Nat.le_of_ble_eq_true rfl, Nat.le_of_ble_eq_true rfl, Nat.le_of_ble_eq_true rfl, Nat.le_of_ble_eq_true rfl⟩ (Nat.le_of_ble_eq_true rfl) rfl rfl rfl rfl ?_
  refine zo_ifneB d_NC_settled_8 rfl 11 rfl (fun c11 => ?_) (fun c11 => ?_)
  · rw [if_pos c11] at h
    refine zi_iload_n 1 d_NC_settled_13 rfl ?_
    refine zi_if_ne (tgt := 29) d_NC_settled_14 rfl (fun c12 => ?_) (fun c12 => ?_)
    · rw [if_neg c12] at h
      refine zi_iload_n 1 d_NC_settled_29 rfl ?_
      refine zi_iconst 1 d_NC_settled_30 rfl ?_
      refine zi_isub d_NC_settled_31 ?_
      refine zi_lo [(0, .ref a0), (1, .int x1)] [0, 1] rfl ?_
      exact K_NC_settled_b32 n E S a0 x1 (x1 - 1) q10.2 r M'  h
    · rw [if_pos c12] at h
      refine zi_aload_n 0 d_NC_settled_17 rfl ?_
      refine zo_getR 21 zkd_10 0 d_NC_settled_18 eb8 rfl tw_332 rfl ?_
      obtain ⟨v13, ev13, h⟩ := zbind h
      refine zo_getI 24 zkd_3 11 d_NC_settled_21 ev13 rfl tw_87 rfl ?_
      refine zi_iconst 1 d_NC_settled_24 rfl ?_
      refine zi_isub d_NC_settled_25 ?_
      refine zi_goto (tgt := 32) d_NC_settled_26 rfl ?_
      refine zi_lo [(0, .ref a0), (1, .int x1)] [0, 1] rfl ?_
      exact K_NC_settled_b32 n E S a0 x1 (v13 - 1) q10.2 r M'  h
  · rw [if_neg c11] at h
    refine zi_iconst (-1) d_NC_settled_11 rfl ?_
    cases h
    exact zo_ret d_NC_settled_12 (Nat.le_of_ble_eq_true rfl) (Nat.le_of_ble_eq_true rfl) rfl
theorem C_NC_settled (n : Nat) (E : zE) (S : zS) (a0 : Nat) (x1 : Int32) (M : zH) (r : Int32) (M' : zH) (h : F_NC_settled n E S a0 x1 M = some (r, M')) : zC E Y_NC_settled [.ref a0, .int x1] S M (some (.int r), S, M') :=
  zC.of (Or.inl (show plainName "NightColander" = true by decide)) (Nat.le_of_ble_eq_true rfl) (trivial) (K_NC_settled n E S a0 x1 M r M' h)
theorem d_Ja_fillJ_0 : decode (yB Y_Ja_fillJ) 0 = .ok (.iconst 0, 1) := by decide +kernel
theorem d_Ja_fillJ_1 : decode (yB Y_Ja_fillJ) 1 = .ok (.istore_n 3, 1) := by decide +kernel
theorem d_Ja_fillJ_2 : decode (yB Y_Ja_fillJ) 2 = .ok (.aload_n 0, 1) := by decide +kernel
theorem d_Ja_fillJ_3 : decode (yB Y_Ja_fillJ) 3 = .ok (.arraylength, 1) := by decide +kernel
theorem d_Ja_fillJ_4 : decode (yB Y_Ja_fillJ) 4 = .ok (.istore 4, 2) := by decide +kernel
theorem d_Ja_fillJ_6 : decode (yB Y_Ja_fillJ) 6 = .ok (.iload_n 3, 1) := by decide +kernel
theorem d_Ja_fillJ_7 : decode (yB Y_Ja_fillJ) 7 = .ok (.iload 4, 2) := by decide +kernel
theorem d_Ja_fillJ_9 : decode (yB Y_Ja_fillJ) 9 = .ok (.if_icmp .ge 13, 3) := by decide +kernel
theorem d_Ja_fillJ_12 : decode (yB Y_Ja_fillJ) 12 = .ok (.aload_n 0, 1) := by decide +kernel
theorem d_Ja_fillJ_13 : decode (yB Y_Ja_fillJ) 13 = .ok (.iload_n 3, 1) := by decide +kernel
theorem d_Ja_fillJ_14 : decode (yB Y_Ja_fillJ) 14 = .ok (.lload_n 1, 1) := by decide +kernel
theorem d_Ja_fillJ_15 : decode (yB Y_Ja_fillJ) 15 = .ok (.lastore, 1) := by decide +kernel
theorem d_Ja_fillJ_16 : decode (yB Y_Ja_fillJ) 16 = .ok (.iinc 3 1, 3) := by decide +kernel
theorem d_Ja_fillJ_19 : decode (yB Y_Ja_fillJ) 19 = .ok (.goto (-13), 3) := by decide +kernel
theorem d_Ja_fillJ_22 : decode (yB Y_Ja_fillJ) 22 = .ok (.return_, 1) := by decide +kernel
def F_Ja_fillJ_L6 (n : Nat) (E : zE) (S : zS) (r6 : Nat × Int64 × Int32 × Int32 × zH → Option (zH)) (a0 : Nat) (y1 : Int64) (x3 : Int32) (x4 : Int32) (M : zH) : Option (zH) :=
  if x4 ≤ x3 then
    some (M)
  else
    (zstJ S M a0 x3 y1).bind fun m2 =>
    r6 (a0, y1, x3 + 1, x4, m2)
def F_Ja_fillJ_b6 (n : Nat) (E : zE) (S : zS) : Nat × Int64 × Int32 × Int32 × zH → Option (zH) := zfix (fun r6 s => F_Ja_fillJ_L6 n E S r6 s.1 s.2.1 s.2.2.1 s.2.2.2.1 s.2.2.2.2) n
def F_Ja_fillJ (n : Nat) (E : zE) (S : zS) (a0 : Nat) (y1 : Int64) (M : zH) : Option (zH) :=
  (zlen S 15 a0).bind fun v3 =>
  F_Ja_fillJ_b6 n E S (a0, y1, 0, v3, M)
theorem K_Ja_fillJ_L6 (n : Nat) (E : zE) (S : zS) (r6 : Nat × Int64 × Int32 × Int32 × zH → Option (zH)) (a0 : Nat) (y1 : Int64) (x3 : Int32) (x4 : Int32) (M : zH) (M' : zH) (hr6 : ∀ (a0 : Nat) (y1 : Int64) (x3 : Int32) (x4 : Int32) (M : zH), r6 (a0, y1, x3, x4, M) = some M' → zG E Y_Ja_fillJ (none, S, M') 6 [(0, .ref a0), (1, .long y1), (3, .int x3), (4, .int x4)] [] S M 0 0) (h : F_Ja_fillJ_L6 n E S r6 a0 y1 x3 x4 M = some M') : zG E Y_Ja_fillJ (none, S, M') 6 [(0, .ref a0), (1, .long y1), (3, .int x3), (4, .int x4)] [] S M 0 0 := by
  unfold F_Ja_fillJ_L6 at h
  refine zi_iload_n 2 d_Ja_fillJ_6 rfl ?_
  refine zi_iload 3 d_Ja_fillJ_7 rfl ?_
  refine zi_icmp_ge (tgt := 22) d_Ja_fillJ_9 rfl (fun c1 => ?_) (fun c1 => ?_)
  · rw [if_pos c1] at h
    cases h
    exact zo_ret d_Ja_fillJ_22 (Nat.le_of_ble_eq_true rfl) (Nat.le_of_ble_eq_true rfl) rfl
  · rw [if_neg c1] at h
    refine zi_aload_n 0 d_Ja_fillJ_12 rfl ?_
    refine zi_iload_n 2 d_Ja_fillJ_13 rfl ?_
    refine zi_lload_n 1 d_Ja_fillJ_14 rfl ?_
    obtain ⟨m2, em2, h⟩ := zbind h
    refine zo_last 16 d_Ja_fillJ_15 em2 rfl ?_
    refine zi_iinc 2 (x3 + 1) [(3, .int (x3 + 1)), (0, .ref a0), (1, .long y1), (4, .int x4)] d_Ja_fillJ_16 rfl rfl (by decide) rfl ?_
    refine zi_goto (tgt := 6) d_Ja_fillJ_19 rfl ?_
    refine zi_lo [(0, .ref a0), (1, .long y1), (3, .int (x3 + 1)), (4, .int x4)] [1, 2, 0, 3] rfl ?_
    exact hr6 a0 y1 (x3 + 1) x4 m2 h
theorem K_Ja_fillJ_b6 (n : Nat) (E : zE) (S : zS) (a0 : Nat) (y1 : Int64) (x3 : Int32) (x4 : Int32) (M : zH) (M' : zH)  (h : F_Ja_fillJ_b6 n E S (a0, y1, x3, x4, M) = some M') : zG E Y_Ja_fillJ (none, S, M') 6 [(0, .ref a0), (1, .long y1), (3, .int x3), (4, .int x4)] [] S M 0 0 := by
  have key : ∀ (k : Nat) (a0 : Nat) (y1 : Int64) (x3 : Int32) (x4 : Int32) (M : zH), zfix (fun r6 s => F_Ja_fillJ_L6 n E S r6 s.1 s.2.1 s.2.2.1 s.2.2.2.1 s.2.2.2.2) k (a0, y1, x3, x4, M) = some M' → zG E Y_Ja_fillJ (none, S, M') 6 [(0, .ref a0), (1, .long y1), (3, .int x3), (4, .int x4)] [] S M 0 0 := by
    intro k
    induction k with
    | zero => intro a0 y1 x3 x4 M h; cases h
    | succ k ih => intro a0 y1 x3 x4 M h; exact K_Ja_fillJ_L6 n E S _ a0 y1 x3 x4 M M'  (fun a0 y1 x3 x4 M h => ih a0 y1 x3 x4 M h) h
  exact key n a0 y1 x3 x4 M h
theorem K_Ja_fillJ (n : Nat) (E : zE) (S : zS) (a0 : Nat) (y1 : Int64) (M : zH) (M' : zH)  (h : F_Ja_fillJ n E S a0 y1 M = some M') : zG E Y_Ja_fillJ (none, S, M') 0 [(0, .ref a0), (1, .long y1)] [] S M 0 0 := by
  unfold F_Ja_fillJ at h
  refine zi_iconst 0 d_Ja_fillJ_0 rfl ?_
  refine zi_istore_n [(3, .int 0), (0, .ref a0), (1, .long y1)] d_Ja_fillJ_1 (by decide) rfl ?_
  refine zi_aload_n 1 d_Ja_fillJ_2 rfl ?_
  obtain ⟨v3, ev3, h⟩ := zbind h
  refine zo_alen 4 d_Ja_fillJ_3 ev3 (by decide) rfl ?_
  refine zi_istore [(4, .int v3), (3, .int 0), (0, .ref a0), (1, .long y1)] d_Ja_fillJ_4 (by decide) rfl ?_
  refine zi_lo [(0, .ref a0), (1, .long y1), (3, .int 0), (4, .int v3)] [2, 3, 1, 0] rfl ?_
  exact K_Ja_fillJ_b6 n E S a0 y1 0 v3 M M'  h
theorem C_Ja_fillJ (n : Nat) (E : zE) (S : zS) (a0 : Nat) (y1 : Int64) (M : zH) (M' : zH) (h : F_Ja_fillJ n E S a0 y1 M = some M') : zC E Y_Ja_fillJ [.ref a0, .long y1] S M (none, S, M') :=
  zC.of (Or.inl (show plainName "java/util/Arrays" = true by decide)) (Nat.le_of_ble_eq_true rfl) (trivial) (K_Ja_fillJ n E S a0 y1 M M' h)
