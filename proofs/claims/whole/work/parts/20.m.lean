/-! METHODS (printed by gen/build.py): NC_within NC_isRing Jm_floorMod Ta_byteAt Js_isLatin1 Jp_checkIndex Js_checkIndex Jl_charAt Js_charAt Ta_isSame Js_coder Js_length Ta_indexIn Ni_turnAll -/
def Y_NC_within : zY := (⟨"NightColander","within","(III)Z"⟩, prog_1_method_43_code, 3, some .boolean, 1, 0, 0)
theorem dd_NC_within : (⟨"NightColander","within","(III)Z"⟩ : MethodName).cls ≠ "java/lang/invoke/MethodHandle" ∧ (⟨"NightColander","within","(III)Z"⟩ : MethodName).cls ≠ "java/lang/invoke/VarHandle" ∧ (parseMethodDescriptor (⟨"NightColander","within","(III)Z"⟩ : MethodName).desc).map (fun d => d.parameters.length) = some 3 := by decide +kernel
theorem d_NC_within_0 : decode (yB Y_NC_within) 0 = .ok (.iload_n 0, 1) := by decide +kernel
theorem d_NC_within_1 : decode (yB Y_NC_within) 1 = .ok (.iload_n 1, 1) := by decide +kernel
theorem d_NC_within_2 : decode (yB Y_NC_within) 2 = .ok (.if_icmp .lt 12, 3) := by decide +kernel
theorem d_NC_within_5 : decode (yB Y_NC_within) 5 = .ok (.iload_n 0, 1) := by decide +kernel
theorem d_NC_within_6 : decode (yB Y_NC_within) 6 = .ok (.iload_n 2, 1) := by decide +kernel
theorem d_NC_within_7 : decode (yB Y_NC_within) 7 = .ok (.if_icmp .gt 7, 3) := by decide +kernel
theorem d_NC_within_10 : decode (yB Y_NC_within) 10 = .ok (.iconst 1, 1) := by decide +kernel
theorem d_NC_within_11 : decode (yB Y_NC_within) 11 = .ok (.goto 4, 3) := by decide +kernel
theorem d_NC_within_14 : decode (yB Y_NC_within) 14 = .ok (.iconst 0, 1) := by decide +kernel
theorem d_NC_within_15 : decode (yB Y_NC_within) 15 = .ok (.ireturn, 1) := by decide +kernel
def F_NC_within (n : Nat) (E : zE) (S : zS) (x0 : Int32) (x1 : Int32) (x2 : Int32) (M : zH) : Option (Bool × zH) :=
  if x0 < x1 then
    some (false, M)
  else
    if x2 < x0 then
      some (false, M)
    else
      some (true, M)
theorem K_NC_within (n : Nat) (E : zE) (S : zS) (x0 : Int32) (x1 : Int32) (x2 : Int32) (M : zH) (r : Bool) (M' : zH)  (h : F_NC_within n E S x0 x1 x2 M = some (r, M')) : zG E Y_NC_within (some (.int (bI r)), S, M') 0 [(0, .int x0), (1, .int x1), (2, .int x2)] [] S M 0 0 := by
  unfold F_NC_within at h
  refine zi_iload_n 0 d_NC_within_0 rfl ?_
  refine zi_iload_n 1 d_NC_within_1 rfl ?_
  refine zi_icmp_lt (tgt := 14) d_NC_within_2 rfl (fun c1 => ?_) (fun c1 => ?_)
  · rw [if_pos c1] at h
    refine zi_iconst 0 d_NC_within_14 rfl ?_
    cases h
    exact zo_retB d_NC_within_15 (Nat.le_of_ble_eq_true rfl) (Nat.le_of_ble_eq_true rfl) rfl
  · rw [if_neg c1] at h
    refine zi_iload_n 0 d_NC_within_5 rfl ?_
    refine zi_iload_n 2 d_NC_within_6 rfl ?_
    refine zi_icmp_gt (tgt := 14) d_NC_within_7 rfl (fun c2 => ?_) (fun c2 => ?_)
    · rw [if_pos c2] at h
      refine zi_iconst 0 d_NC_within_14 rfl ?_
      cases h
      exact zo_retB d_NC_within_15 (Nat.le_of_ble_eq_true rfl) (Nat.le_of_ble_eq_true rfl) rfl
    · rw [if_neg c2] at h
      refine zi_iconst 1 d_NC_within_10 rfl ?_
      refine zi_goto (tgt := 15) d_NC_within_11 rfl ?_
      cases h
      exact zo_retB d_NC_within_15 (Nat.le_of_ble_eq_true rfl) (Nat.le_of_ble_eq_true rfl) rfl
theorem C_NC_within (n : Nat) (E : zE) (S : zS) (x0 : Int32) (x1 : Int32) (x2 : Int32) (M : zH) (r : Bool) (M' : zH) (h : F_NC_within n E S x0 x1 x2 M = some (r, M')) : zC E Y_NC_within [.int x0, .int x1, .int x2] S M (some (.int (bI r)), S, M') :=
  zC.of (Or.inl (show plainName "NightColander" = true by decide)) (Nat.le_of_ble_eq_true rfl) (bI_nar r) (K_NC_within n E S x0 x1 x2 M r M' h)
def Y_NC_isRing : zY := (⟨"NightColander","isRing","(I)Z"⟩, prog_1_method_44_code, 1, some .boolean, 2, 0, 0)
theorem dd_NC_isRing : (⟨"NightColander","isRing","(I)Z"⟩ : MethodName).cls ≠ "java/lang/invoke/MethodHandle" ∧ (⟨"NightColander","isRing","(I)Z"⟩ : MethodName).cls ≠ "java/lang/invoke/VarHandle" ∧ (parseMethodDescriptor (⟨"NightColander","isRing","(I)Z"⟩ : MethodName).desc).map (fun d => d.parameters.length) = some 1 := by decide +kernel
theorem d_NC_isRing_0 : decode (yB Y_NC_isRing) 0 = .ok (.iload_n 0, 1) := by decide +kernel
theorem d_NC_isRing_1 : decode (yB Y_NC_isRing) 1 = .ok (.iconst 0, 1) := by decide +kernel
theorem d_NC_isRing_2 : decode (yB Y_NC_isRing) 2 = .ok (.iconst 3, 1) := by decide +kernel
theorem d_NC_isRing_3 : decode (yB Y_NC_isRing) 3 = .ok (.invokestatic 132, 3) := by decide +kernel
theorem d_NC_isRing_6 : decode (yB Y_NC_isRing) 6 = .ok (.ireturn, 1) := by decide +kernel
def F_NC_isRing (n : Nat) (E : zE) (S : zS) (x0 : Int32) (M : zH) : Option (Bool × zH) :=
  (F_NC_within n E S x0 0 3 M).bind fun q1 =>
  some (q1.1, q1.2)
theorem K_NC_isRing (n : Nat) (E : zE) (S : zS) (x0 : Int32) (M : zH) (r : Bool) (M' : zH)  (h : F_NC_isRing n E S x0 M = some (r, M')) : zG E Y_NC_isRing (some (.int (bI r)), S, M') 0 [(0, .int x0)] [] S M 0 0 := by
  unfold F_NC_isRing at h
  refine zi_iload_n 0 d_NC_isRing_0 rfl ?_
  refine zi_iconst 0 d_NC_isRing_1 rfl ?_
  refine zi_iconst 3 d_NC_isRing_2 rfl ?_
  obtain ⟨q1, eq1, h⟩ := zbind h
  refine zo_stat 6 [.int x0, .int 0, .int 3] [] [.int (bI q1.1)] (C_NC_within n E S x0 0 3 M q1.1 q1.2 eq1) d_NC_isRing_3 tw_399 tw_397 tw_398 tw_1 dd_NC_within ⟨Nat.le_of_ble_eq_true rfl, Nat.le_of_ble_eq_true rfl, Nat.le_of_ble_eq_true rfl, Nat.le_of_ble_eq_true rfl⟩ (Nat.le_of_ble_eq_true rfl) rfl rfl rfl rfl ?_
  cases h
  exact zo_retB d_NC_isRing_6 (Nat.le_of_ble_eq_true rfl) (Nat.le_of_ble_eq_true rfl) rfl
theorem C_NC_isRing (n : Nat) (E : zE) (S : zS) (x0 : Int32) (M : zH) (r : Bool) (M' : zH) (h : F_NC_isRing n E S x0 M = some (r, M')) : zC E Y_NC_isRing [.int x0] S M (some (.int (bI r)), S, M') :=
  zC.of (Or.inl (show plainName "NightColander" = true by decide)) (Nat.le_of_ble_eq_true rfl) (bI_nar r) (K_NC_isRing n E S x0 M r M' h)
def Y_Jm_floorMod : zY := (⟨"java/lang/Math","floorMod","(II)I"⟩, prog_17_method_50_code, 3, some .int, 1, 0, 0)
theorem dd_Jm_floorMod : (⟨"java/lang/Math","floorMod","(II)I"⟩ : MethodName).cls ≠ "java/lang/invoke/MethodHandle" ∧ (⟨"java/lang/Math","floorMod","(II)I"⟩ : MethodName).cls ≠ "java/lang/invoke/VarHandle" ∧ (parseMethodDescriptor (⟨"java/lang/Math","floorMod","(II)I"⟩ : MethodName).desc).map (fun d => d.parameters.length) = some 2 := by decide +kernel
theorem d_Jm_floorMod_0 : decode (yB Y_Jm_floorMod) 0 = .ok (.iload_n 0, 1) := by decide +kernel
theorem d_Jm_floorMod_1 : decode (yB Y_Jm_floorMod) 1 = .ok (.iload_n 1, 1) := by decide +kernel
theorem d_Jm_floorMod_2 : decode (yB Y_Jm_floorMod) 2 = .ok (.irem, 1) := by decide +kernel
theorem d_Jm_floorMod_3 : decode (yB Y_Jm_floorMod) 3 = .ok (.istore_n 2, 1) := by decide +kernel
theorem d_Jm_floorMod_4 : decode (yB Y_Jm_floorMod) 4 = .ok (.iload_n 0, 1) := by decide +kernel
theorem d_Jm_floorMod_5 : decode (yB Y_Jm_floorMod) 5 = .ok (.iload_n 1, 1) := by decide +kernel
theorem d_Jm_floorMod_6 : decode (yB Y_Jm_floorMod) 6 = .ok (.ixor, 1) := by decide +kernel
theorem d_Jm_floorMod_7 : decode (yB Y_Jm_floorMod) 7 = .ok (.ifCond .ge 11, 3) := by decide +kernel
theorem d_Jm_floorMod_10 : decode (yB Y_Jm_floorMod) 10 = .ok (.iload_n 2, 1) := by decide +kernel
theorem d_Jm_floorMod_11 : decode (yB Y_Jm_floorMod) 11 = .ok (.ifCond .eq 7, 3) := by decide +kernel
theorem d_Jm_floorMod_14 : decode (yB Y_Jm_floorMod) 14 = .ok (.iload_n 2, 1) := by decide +kernel
theorem d_Jm_floorMod_15 : decode (yB Y_Jm_floorMod) 15 = .ok (.iload_n 1, 1) := by decide +kernel
theorem d_Jm_floorMod_16 : decode (yB Y_Jm_floorMod) 16 = .ok (.iadd, 1) := by decide +kernel
theorem d_Jm_floorMod_17 : decode (yB Y_Jm_floorMod) 17 = .ok (.ireturn, 1) := by decide +kernel
theorem d_Jm_floorMod_18 : decode (yB Y_Jm_floorMod) 18 = .ok (.iload_n 2, 1) := by decide +kernel
theorem d_Jm_floorMod_19 : decode (yB Y_Jm_floorMod) 19 = .ok (.ireturn, 1) := by decide +kernel
def F_Jm_floorMod (n : Nat) (E : zE) (S : zS) (x0 : Int32) (x1 : Int32) (M : zH) : Option (Int32 × zH) :=
  (zremI x0 x1).bind fun v1 =>
  if 0 ≤ (x0 ^^^ x1) then
    some (v1, M)
  else
    if v1 = 0 then
      some (v1, M)
    else
      some (v1 + x1, M)
theorem K_Jm_floorMod (n : Nat) (E : zE) (S : zS) (x0 : Int32) (x1 : Int32) (M : zH) (r : Int32) (M' : zH)  (h : F_Jm_floorMod n E S x0 x1 M = some (r, M')) : zG E Y_Jm_floorMod (some (.int r), S, M') 0 [(0, .int x0), (1, .int x1)] [] S M 0 0 := by
  unfold F_Jm_floorMod at h
  refine zi_iload_n 0 d_Jm_floorMod_0 rfl ?_
  refine zi_iload_n 1 d_Jm_floorMod_1 rfl ?_
  obtain ⟨v1, ev1, h⟩ := zbind h
  refine zo_irem 3 d_Jm_floorMod_2 ev1 rfl ?_
  refine zi_istore_n [(2, .int v1), (0, .int x0), (1, .int x1)] d_Jm_floorMod_3 (by decide) rfl ?_
  refine zi_iload_n 1 d_Jm_floorMod_4 rfl ?_
  refine zi_iload_n 2 d_Jm_floorMod_5 rfl ?_
  refine zi_ixor d_Jm_floorMod_6 ?_
  refine zi_if_ge (tgt := 18) d_Jm_floorMod_7 rfl (fun c2 => ?_) (fun c2 => ?_)
  · rw [if_pos c2] at h
    refine zi_iload_n 0 d_Jm_floorMod_18 rfl ?_
    cases h
    exact zo_ret d_Jm_floorMod_19 (Nat.le_of_ble_eq_true rfl) (Nat.le_of_ble_eq_true rfl) rfl
  · rw [if_neg c2] at h
    refine zi_iload_n 0 d_Jm_floorMod_10 rfl ?_
    refine zi_if_eq (tgt := 18) d_Jm_floorMod_11 rfl (fun c3 => ?_) (fun c3 => ?_)
    · rw [if_pos c3] at h
      refine zi_iload_n 0 d_Jm_floorMod_18 rfl ?_
      cases h
      exact zo_ret d_Jm_floorMod_19 (Nat.le_of_ble_eq_true rfl) (Nat.le_of_ble_eq_true rfl) rfl
    · rw [if_neg c3] at h
      refine zi_iload_n 0 d_Jm_floorMod_14 rfl ?_
      refine zi_iload_n 2 d_Jm_floorMod_15 rfl ?_
      refine zi_iadd d_Jm_floorMod_16 ?_
      cases h
      exact zo_ret d_Jm_floorMod_17 (Nat.le_of_ble_eq_true rfl) (Nat.le_of_ble_eq_true rfl) rfl
theorem C_Jm_floorMod (n : Nat) (E : zE) (S : zS) (x0 : Int32) (x1 : Int32) (M : zH) (r : Int32) (M' : zH) (h : F_Jm_floorMod n E S x0 x1 M = some (r, M')) : zC E Y_Jm_floorMod [.int x0, .int x1] S M (some (.int r), S, M') :=
  zC.of (Or.inr (show plainFor ⟨"java/lang/Math","floorMod","(II)I"⟩ = true by decide +kernel)) (Nat.le_of_ble_eq_true rfl) (trivial) (K_Jm_floorMod n E S x0 x1 M r M' h)
def Y_Ta_byteAt : zY := (⟨"NightColander$Tape","byteAt","(I)I"⟩, prog_10_method_4_code, 2, some .int, 1, 0, 0)
theorem dd_Ta_byteAt : (⟨"NightColander$Tape","byteAt","(I)I"⟩ : MethodName).cls = "NightColander$Tape" ∧ (⟨"NightColander$Tape","byteAt","(I)I"⟩ : MethodName).cls ≠ "java/lang/invoke/MethodHandle" ∧ (⟨"NightColander$Tape","byteAt","(I)I"⟩ : MethodName).cls ≠ "java/lang/invoke/VarHandle" ∧ (parseMethodDescriptor (⟨"NightColander$Tape","byteAt","(I)I"⟩ : MethodName).desc).map (fun d => d.parameters.length) = some 1 := by decide +kernel
theorem d_Ta_byteAt_0 : decode (yB Y_Ta_byteAt) 0 = .ok (.iload_n 1, 1) := by decide +kernel
theorem d_Ta_byteAt_1 : decode (yB Y_Ta_byteAt) 1 = .ok (.ifCond .lt 31, 3) := by decide +kernel
theorem d_Ta_byteAt_4 : decode (yB Y_Ta_byteAt) 4 = .ok (.iload_n 1, 1) := by decide +kernel
theorem d_Ta_byteAt_5 : decode (yB Y_Ta_byteAt) 5 = .ok (.aload_n 0, 1) := by decide +kernel
theorem d_Ta_byteAt_6 : decode (yB Y_Ta_byteAt) 6 = .ok (.getfield 15, 3) := by decide +kernel
theorem d_Ta_byteAt_9 : decode (yB Y_Ta_byteAt) 9 = .ok (.if_icmp .ge 23, 3) := by decide +kernel
theorem d_Ta_byteAt_12 : decode (yB Y_Ta_byteAt) 12 = .ok (.iload_n 1, 1) := by decide +kernel
theorem d_Ta_byteAt_13 : decode (yB Y_Ta_byteAt) 13 = .ok (.sipush 400, 3) := by decide +kernel
theorem d_Ta_byteAt_16 : decode (yB Y_Ta_byteAt) 16 = .ok (.if_icmp .ge 16, 3) := by decide +kernel
theorem d_Ta_byteAt_19 : decode (yB Y_Ta_byteAt) 19 = .ok (.aload_n 0, 1) := by decide +kernel
theorem d_Ta_byteAt_20 : decode (yB Y_Ta_byteAt) 20 = .ok (.getfield 11, 3) := by decide +kernel
theorem d_Ta_byteAt_23 : decode (yB Y_Ta_byteAt) 23 = .ok (.iload_n 1, 1) := by decide +kernel
theorem d_Ta_byteAt_24 : decode (yB Y_Ta_byteAt) 24 = .ok (.baload, 1) := by decide +kernel
theorem d_Ta_byteAt_25 : decode (yB Y_Ta_byteAt) 25 = .ok (.sipush 255, 3) := by decide +kernel
theorem d_Ta_byteAt_28 : decode (yB Y_Ta_byteAt) 28 = .ok (.iand, 1) := by decide +kernel
theorem d_Ta_byteAt_29 : decode (yB Y_Ta_byteAt) 29 = .ok (.goto 4, 3) := by decide +kernel
theorem d_Ta_byteAt_32 : decode (yB Y_Ta_byteAt) 32 = .ok (.iconst 0, 1) := by decide +kernel
theorem d_Ta_byteAt_33 : decode (yB Y_Ta_byteAt) 33 = .ok (.ireturn, 1) := by decide +kernel
def F_Ta_byteAt (n : Nat) (E : zE) (S : zS) (a0 : Nat) (x1 : Int32) (M : zH) : Option (Int32 × zH) :=
  if x1 < 0 then
    some (0, M)
  else
    (zgI S M a0 8 1).bind fun v2 =>
    if v2 ≤ x1 then
      some (0, M)
    else
      if 400 ≤ x1 then
        some (0, M)
      else
        (zgR S a0 8 0).bind fun b5 =>
        (zldB S M b5 x1).bind fun v6 =>
        some (v6 &&& 255, M)
theorem K_Ta_byteAt (n : Nat) (E : zE) (S : zS) (a0 : Nat) (x1 : Int32) (M : zH) (r : Int32) (M' : zH)  (h : F_Ta_byteAt n E S a0 x1 M = some (r, M')) : zG E Y_Ta_byteAt (some (.int r), S, M') 0 [(0, .ref a0), (1, .int x1)] [] S M 0 0 := by
  unfold F_Ta_byteAt at h
  refine zi_iload_n 1 d_Ta_byteAt_0 rfl ?_
  refine zi_if_lt (tgt := 32) d_Ta_byteAt_1 rfl (fun c1 => ?_) (fun c1 => ?_)
  · rw [if_pos c1] at h
    refine zi_iconst 0 d_Ta_byteAt_32 rfl ?_
    cases h
    exact zo_ret d_Ta_byteAt_33 (Nat.le_of_ble_eq_true rfl) (Nat.le_of_ble_eq_true rfl) rfl
  · rw [if_neg c1] at h
    refine zi_iload_n 1 d_Ta_byteAt_4 rfl ?_
    refine zi_aload_n 0 d_Ta_byteAt_5 rfl ?_
    obtain ⟨v2, ev2, h⟩ := zbind h
    refine zo_getI 9 zkd_8 1 d_Ta_byteAt_6 ev2 rfl tw_153 rfl ?_
    refine zi_icmp_ge (tgt := 32) d_Ta_byteAt_9 rfl (fun c3 => ?_) (fun c3 => ?_)
    · rw [if_pos c3] at h
      refine zi_iconst 0 d_Ta_byteAt_32 rfl ?_
      cases h
      exact zo_ret d_Ta_byteAt_33 (Nat.le_of_ble_eq_true rfl) (Nat.le_of_ble_eq_true rfl) rfl
    · rw [if_neg c3] at h
      refine zi_iload_n 1 d_Ta_byteAt_12 rfl ?_
      refine zi_sipush 400 d_Ta_byteAt_13 rfl ?_
      refine zi_icmp_ge (tgt := 32) d_Ta_byteAt_16 rfl (fun c4 => ?_) (fun c4 => ?_)
      · rw [if_pos c4] at h
        refine zi_iconst 0 d_Ta_byteAt_32 rfl ?_
        cases h
        exact zo_ret d_Ta_byteAt_33 (Nat.le_of_ble_eq_true rfl) (Nat.le_of_ble_eq_true rfl) rfl
      · rw [if_neg c4] at h
        refine zi_aload_n 0 d_Ta_byteAt_19 rfl ?_
        obtain ⟨b5, eb5, h⟩ := zbind h
        refine zo_getR 23 zkd_8 0 d_Ta_byteAt_20 eb5 rfl tw_152 rfl ?_
        refine zi_iload_n 1 d_Ta_byteAt_23 rfl ?_
        obtain ⟨v6, ev6, h⟩ := zbind h
        refine zo_bald 25 d_Ta_byteAt_24 ev6 rfl ?_
        refine zi_sipush 255 d_Ta_byteAt_25 rfl ?_
        refine zi_iand d_Ta_byteAt_28 ?_
        refine zi_goto (tgt := 33) d_Ta_byteAt_29 rfl ?_
        cases h
        exact zo_ret d_Ta_byteAt_33 (Nat.le_of_ble_eq_true rfl) (Nat.le_of_ble_eq_true rfl) rfl
theorem C_Ta_byteAt (n : Nat) (E : zE) (S : zS) (a0 : Nat) (x1 : Int32) (M : zH) (r : Int32) (M' : zH) (h : F_Ta_byteAt n E S a0 x1 M = some (r, M')) : zC E Y_Ta_byteAt [.ref a0, .int x1] S M (some (.int r), S, M') :=
  zC.of (Or.inl (show plainName "NightColander$Tape" = true by decide)) (Nat.le_of_ble_eq_true rfl) (trivial) (K_Ta_byteAt n E S a0 x1 M r M' h)
def Y_Js_isLatin1 : zY := (⟨"java/lang/String","isLatin1","()Z"⟩, prog_18_method_154_code, 1, some .boolean, 1, 0, 0)
theorem dd_Js_isLatin1 : (⟨"java/lang/String","isLatin1","()Z"⟩ : MethodName).cls = "java/lang/String" ∧ (⟨"java/lang/String","isLatin1","()Z"⟩ : MethodName).cls ≠ "java/lang/invoke/MethodHandle" ∧ (⟨"java/lang/String","isLatin1","()Z"⟩ : MethodName).cls ≠ "java/lang/invoke/VarHandle" ∧ (parseMethodDescriptor (⟨"java/lang/String","isLatin1","()Z"⟩ : MethodName).desc).map (fun d => d.parameters.length) = some 0 := by decide +kernel
theorem d_Js_isLatin1_0 : decode (yB Y_Js_isLatin1) 0 = .ok (.getstatic 38, 3) := by decide +kernel
theorem d_Js_isLatin1_3 : decode (yB Y_Js_isLatin1) 3 = .ok (.ifCond .eq 14, 3) := by decide +kernel
theorem d_Js_isLatin1_6 : decode (yB Y_Js_isLatin1) 6 = .ok (.aload_n 0, 1) := by decide +kernel
theorem d_Js_isLatin1_7 : decode (yB Y_Js_isLatin1) 7 = .ok (.getfield 15, 3) := by decide +kernel
theorem d_Js_isLatin1_10 : decode (yB Y_Js_isLatin1) 10 = .ok (.ifCond .ne 7, 3) := by decide +kernel
theorem d_Js_isLatin1_13 : decode (yB Y_Js_isLatin1) 13 = .ok (.iconst 1, 1) := by decide +kernel
theorem d_Js_isLatin1_14 : decode (yB Y_Js_isLatin1) 14 = .ok (.goto 4, 3) := by decide +kernel
theorem d_Js_isLatin1_17 : decode (yB Y_Js_isLatin1) 17 = .ok (.iconst 0, 1) := by decide +kernel
theorem d_Js_isLatin1_18 : decode (yB Y_Js_isLatin1) 18 = .ok (.ireturn, 1) := by decide +kernel
def F_Js_isLatin1 (n : Nat) (E : zE) (S : zS) (i0 : Nat) (M : zH) : Option (Bool × zH) :=
  if (1 : Int32) = 0 then
    some (false, M)
  else
    (zli i0).bind fun u2 =>
    if (0 : Int32) = 0 then
      some (true, M)
    else
      some (false, M)
theorem K_Js_isLatin1 (n : Nat) (E : zE) (S : zS) (i0 : Nat) (M : zH) (r : Bool) (M' : zH)  (h : F_Js_isLatin1 n E S i0 M = some (r, M')) : zG E Y_Js_isLatin1 (some (.int (bI r)), S, M') 0 [(0, .ref (eK E i0))] [] S M 0 0 := by
  unfold F_Js_isLatin1 at h
  refine zo_gets (v := .int 1) 3 d_Js_isLatin1_0 (zstc E) tw_604 rfl ?_
  refine zi_if_eq (tgt := 17) d_Js_isLatin1_3 rfl (fun c1 => ?_) (fun c1 => ?_)
  · rw [if_pos c1] at h
    refine zi_iconst 0 d_Js_isLatin1_17 rfl ?_
    cases h
    exact zo_retB d_Js_isLatin1_18 (Nat.le_of_ble_eq_true rfl) (Nat.le_of_ble_eq_true rfl) rfl
  · rw [if_neg c1] at h
    refine zi_aload_n 0 d_Js_isLatin1_6 rfl ?_
    obtain ⟨u2, eu2, h⟩ := zbind h
    refine zo_litf 10 d_Js_isLatin1_7 (zlitC E (zli_s eu2)) tw_1916 rfl ?_
    refine zi_if_ne (tgt := 17) d_Js_isLatin1_10 rfl (fun c3 => ?_) (fun c3 => ?_)
    · rw [if_neg c3] at h
      refine zi_iconst 0 d_Js_isLatin1_17 rfl ?_
      cases h
      exact zo_retB d_Js_isLatin1_18 (Nat.le_of_ble_eq_true rfl) (Nat.le_of_ble_eq_true rfl) rfl
    · rw [if_pos c3] at h
      refine zi_iconst 1 d_Js_isLatin1_13 rfl ?_
      refine zi_goto (tgt := 18) d_Js_isLatin1_14 rfl ?_
      cases h
      exact zo_retB d_Js_isLatin1_18 (Nat.le_of_ble_eq_true rfl) (Nat.le_of_ble_eq_true rfl) rfl
theorem C_Js_isLatin1 (n : Nat) (E : zE) (S : zS) (i0 : Nat) (M : zH) (r : Bool) (M' : zH) (h : F_Js_isLatin1 n E S i0 M = some (r, M')) : zC E Y_Js_isLatin1 [.ref (eK E i0)] S M (some (.int (bI r)), S, M') :=
  zC.of (Or.inl (show plainName "java/lang/String" = true by decide)) (Nat.le_of_ble_eq_true rfl) (bI_nar r) (K_Js_isLatin1 n E S i0 M r M' h)
def Y_Jp_checkIndex : zY := (⟨"jdk/internal/util/Preconditions","checkIndex","(IILjava/util/function/BiFunction;)I"⟩, prog_23_method_11_code, 3, some .int, 1, 0, 0)
theorem dd_Jp_checkIndex : (⟨"jdk/internal/util/Preconditions","checkIndex","(IILjava/util/function/BiFunction;)I"⟩ : MethodName).cls ≠ "java/lang/invoke/MethodHandle" ∧ (⟨"jdk/internal/util/Preconditions","checkIndex","(IILjava/util/function/BiFunction;)I"⟩ : MethodName).cls ≠ "java/lang/invoke/VarHandle" ∧ (parseMethodDescriptor (⟨"jdk/internal/util/Preconditions","checkIndex","(IILjava/util/function/BiFunction;)I"⟩ : MethodName).desc).map (fun d => d.parameters.length) = some 3 := by decide +kernel
theorem d_Jp_checkIndex_0 : decode (yB Y_Jp_checkIndex) 0 = .ok (.iload_n 0, 1) := by decide +kernel
theorem d_Jp_checkIndex_1 : decode (yB Y_Jp_checkIndex) 1 = .ok (.ifCond .lt 8, 3) := by decide +kernel
theorem d_Jp_checkIndex_4 : decode (yB Y_Jp_checkIndex) 4 = .ok (.iload_n 0, 1) := by decide +kernel
theorem d_Jp_checkIndex_5 : decode (yB Y_Jp_checkIndex) 5 = .ok (.iload_n 1, 1) := by decide +kernel
theorem d_Jp_checkIndex_6 : decode (yB Y_Jp_checkIndex) 6 = .ok (.if_icmp .lt 10, 3) := by decide +kernel
theorem d_Jp_checkIndex_16 : decode (yB Y_Jp_checkIndex) 16 = .ok (.iload_n 0, 1) := by decide +kernel
theorem d_Jp_checkIndex_17 : decode (yB Y_Jp_checkIndex) 17 = .ok (.ireturn, 1) := by decide +kernel
def F_Jp_checkIndex_b9 (n : Nat) (E : zE) (S : zS) (w2 : Unit) (M : zH) : Option (Int32 × zH) :=
  none
def F_Jp_checkIndex (n : Nat) (E : zE) (S : zS) (x0 : Int32) (x1 : Int32) (w2 : Unit) (M : zH) : Option (Int32 × zH) :=
  if x0 < 0 then
    none
  else
    if x0 < x1 then
      some (x0, M)
    else
      none
theorem K_Jp_checkIndex_b9 (n : Nat) (E : zE) (S : zS) (w2 : Unit) (M : zH) (r : Int32) (M' : zH)  (h : F_Jp_checkIndex_b9 n E S w2 M = some (r, M')) : zG E Y_Jp_checkIndex (some (.int r), S, M') 9 [(2, va_rf (eW E))] [] S M 0 0 := by
  unfold F_Jp_checkIndex_b9 at h
  cases h
theorem K_Jp_checkIndex (n : Nat) (E : zE) (S : zS) (x0 : Int32) (x1 : Int32) (w2 : Unit) (M : zH) (r : Int32) (M' : zH)  (h : F_Jp_checkIndex n E S x0 x1 w2 M = some (r, M')) : zG E Y_Jp_checkIndex (some (.int r), S, M') 0 [(0, .int x0), (1, .int x1), (2, va_rf (eW E))] [] S M 0 0 := by
  unfold F_Jp_checkIndex at h
  refine zi_iload_n 0 d_Jp_checkIndex_0 rfl ?_
  refine zi_if_lt (tgt := 9) d_Jp_checkIndex_1 rfl (fun c1 => ?_) (fun c1 => ?_)
  · rw [if_pos c1] at h
    cases h
  · rw [if_neg c1] at h
    refine zi_iload_n 0 d_Jp_checkIndex_4 rfl ?_
    refine zi_iload_n 1 d_Jp_checkIndex_5 rfl ?_
    refine zi_icmp_lt (tgt := 16) d_Jp_checkIndex_6 rfl (fun c2 => ?_) (fun c2 => ?_)
    · rw [if_pos c2] at h
      refine zi_iload_n 0 d_Jp_checkIndex_16 rfl ?_
      cases h
      exact zo_ret d_Jp_checkIndex_17 (Nat.le_of_ble_eq_true rfl) (Nat.le_of_ble_eq_true rfl) rfl
    · rw [if_neg c2] at h
      cases h
theorem C_Jp_checkIndex (n : Nat) (E : zE) (S : zS) (x0 : Int32) (x1 : Int32) (w2 : Unit) (M : zH) (r : Int32) (M' : zH) (h : F_Jp_checkIndex n E S x0 x1 w2 M = some (r, M')) : zC E Y_Jp_checkIndex [.int x0, .int x1, va_rf (eW E)] S M (some (.int r), S, M') :=
  zC.of (Or.inl (show plainName "jdk/internal/util/Preconditions" = true by decide)) (by generalize eW E = w; cases w <;> exact Nat.le_of_ble_eq_true rfl) (trivial) (K_Jp_checkIndex n E S x0 x1 w2 M r M' h)
def Y_Js_checkIndex : zY := (⟨"java/lang/String","checkIndex","(II)V"⟩, prog_18_method_155_code, 2, none, 2, 0, 0)
theorem dd_Js_checkIndex : (⟨"java/lang/String","checkIndex","(II)V"⟩ : MethodName).cls ≠ "java/lang/invoke/MethodHandle" ∧ (⟨"java/lang/String","checkIndex","(II)V"⟩ : MethodName).cls ≠ "java/lang/invoke/VarHandle" ∧ (parseMethodDescriptor (⟨"java/lang/String","checkIndex","(II)V"⟩ : MethodName).desc).map (fun d => d.parameters.length) = some 2 := by decide +kernel
theorem d_Js_checkIndex_0 : decode (yB Y_Js_checkIndex) 0 = .ok (.iload_n 0, 1) := by decide +kernel
theorem d_Js_checkIndex_1 : decode (yB Y_Js_checkIndex) 1 = .ok (.iload_n 1, 1) := by decide +kernel
theorem d_Js_checkIndex_2 : decode (yB Y_Js_checkIndex) 2 = .ok (.getstatic 1053, 3) := by decide +kernel
theorem d_Js_checkIndex_5 : decode (yB Y_Js_checkIndex) 5 = .ok (.invokestatic 1059, 3) := by decide +kernel
theorem d_Js_checkIndex_8 : decode (yB Y_Js_checkIndex) 8 = .ok (.pop, 1) := by decide +kernel
theorem d_Js_checkIndex_9 : decode (yB Y_Js_checkIndex) 9 = .ok (.return_, 1) := by decide +kernel
def F_Js_checkIndex (n : Nat) (E : zE) (S : zS) (x0 : Int32) (x1 : Int32) (M : zH) : Option (zH) :=
  (F_Jp_checkIndex n E S x0 x1 () M).bind fun q1 =>
  some (q1.2)
theorem K_Js_checkIndex (n : Nat) (E : zE) (S : zS) (x0 : Int32) (x1 : Int32) (M : zH) (M' : zH)  (h : F_Js_checkIndex n E S x0 x1 M = some M') : zG E Y_Js_checkIndex (none, S, M') 0 [(0, .int x0), (1, .int x1)] [] S M 0 0 := by
  unfold F_Js_checkIndex at h
  refine zi_iload_n 0 d_Js_checkIndex_0 rfl ?_
  refine zi_iload_n 1 d_Js_checkIndex_1 rfl ?_
  refine zo_gets (v := va_rf (eW E)) 5 d_Js_checkIndex_2 (zstw E) tw_620 rfl ?_
  obtain ⟨q1, eq1, h⟩ := zbind h
  refine zo_stat 8 [.int x0, .int x1, va_rf (eW E)] [] [.int q1.1] (C_Jp_checkIndex n E S x0 x1 () M q1.1 q1.2 eq1) d_Js_checkIndex_5 tw_624 tw_622 tw_623 tw_17 dd_Jp_checkIndex ⟨Nat.le_of_ble_eq_true rfl, Nat.le_of_ble_eq_true rfl, Nat.le_of_ble_eq_true rfl, Nat.le_of_ble_eq_true rfl⟩ (Nat.le_of_ble_eq_true rfl) rfl rfl rfl rfl ?_
  refine zi_pop d_Js_checkIndex_8 rfl ?_
  cases h
  exact zo_ret d_Js_checkIndex_9 (Nat.le_of_ble_eq_true rfl) (Nat.le_of_ble_eq_true rfl) rfl
theorem C_Js_checkIndex (n : Nat) (E : zE) (S : zS) (x0 : Int32) (x1 : Int32) (M : zH) (M' : zH) (h : F_Js_checkIndex n E S x0 x1 M = some M') : zC E Y_Js_checkIndex [.int x0, .int x1] S M (none, S, M') :=
  zC.of (Or.inl (show plainName "java/lang/String" = true by decide)) (Nat.le_of_ble_eq_true rfl) (trivial) (K_Js_checkIndex n E S x0 x1 M M' h)
def Y_Jl_charAt : zY := (⟨"java/lang/StringLatin1","charAt","([BI)C"⟩, prog_19_method_2_code, 2, some .char, 3, 0, 0)
theorem dd_Jl_charAt : (⟨"java/lang/StringLatin1","charAt","([BI)C"⟩ : MethodName).cls ≠ "java/lang/invoke/MethodHandle" ∧ (⟨"java/lang/StringLatin1","charAt","([BI)C"⟩ : MethodName).cls ≠ "java/lang/invoke/VarHandle" ∧ (parseMethodDescriptor (⟨"java/lang/StringLatin1","charAt","([BI)C"⟩ : MethodName).desc).map (fun d => d.parameters.length) = some 2 := by decide +kernel
theorem d_Jl_charAt_0 : decode (yB Y_Jl_charAt) 0 = .ok (.iload_n 1, 1) := by decide +kernel
theorem d_Jl_charAt_1 : decode (yB Y_Jl_charAt) 1 = .ok (.aload_n 0, 1) := by decide +kernel
theorem d_Jl_charAt_2 : decode (yB Y_Jl_charAt) 2 = .ok (.arraylength, 1) := by decide +kernel
theorem d_Jl_charAt_3 : decode (yB Y_Jl_charAt) 3 = .ok (.invokestatic 9, 3) := by decide +kernel
theorem d_Jl_charAt_6 : decode (yB Y_Jl_charAt) 6 = .ok (.aload_n 0, 1) := by decide +kernel
theorem d_Jl_charAt_7 : decode (yB Y_Jl_charAt) 7 = .ok (.iload_n 1, 1) := by decide +kernel
theorem d_Jl_charAt_8 : decode (yB Y_Jl_charAt) 8 = .ok (.baload, 1) := by decide +kernel
theorem d_Jl_charAt_9 : decode (yB Y_Jl_charAt) 9 = .ok (.sipush 255, 3) := by decide +kernel
theorem d_Jl_charAt_12 : decode (yB Y_Jl_charAt) 12 = .ok (.iand, 1) := by decide +kernel
theorem d_Jl_charAt_13 : decode (yB Y_Jl_charAt) 13 = .ok (.i2c, 1) := by decide +kernel
theorem d_Jl_charAt_14 : decode (yB Y_Jl_charAt) 14 = .ok (.ireturn, 1) := by decide +kernel
def F_Jl_charAt_i (n : Nat) (E : zE) (S : zS) (i0 : Nat) (x1 : Int32) (M : zH) : Option (Int32 × zH) :=
  (zln i0).bind fun v1 =>
  (F_Js_checkIndex n E S x1 v1 M).bind fun q2 =>
  (zlb i0 x1).bind fun v3 =>
  some (((v3 &&& 255).toUInt32 % 65536).toInt32, q2)
def F_Jl_charAt (n : Nat) (E : zE) (S : zS) (i0 : Nat) (x1 : Int32) (M : zH) : Option (Int32 × zH) := (F_Jl_charAt_i n E S i0 x1 M).bind fun q => if (q.1.toUInt32 % 65536).toInt32 = q.1 then some q else none
theorem K_Jl_charAt_i (n : Nat) (E : zE) (S : zS) (i0 : Nat) (x1 : Int32) (M : zH) (r : Int32) (M' : zH)  (h : F_Jl_charAt_i n E S i0 x1 M = some (r, M')) : zG E Y_Jl_charAt (some (.int r), S, M') 0 [(0, .ref (eV E i0)), (1, .int x1)] [] S M 0 0 := by
  unfold F_Jl_charAt_i at h
  refine zi_iload_n 1 d_Jl_charAt_0 rfl ?_
  refine zi_aload_n 0 d_Jl_charAt_1 rfl ?_
  obtain ⟨v1, ev1, h⟩ := zbind h
  refine zo_litlen 3 d_Jl_charAt_2 ev1 rfl ?_
  obtain ⟨q2, eq2, h⟩ := zbind h
  refine zo_stat 6 [.int x1, .int v1] [] [] (C_Js_checkIndex n E S x1 v1 M q2 eq2) d_Jl_charAt_3 tw_619 tw_617 tw_618 tw_15 dd_Js_checkIndex ⟨Nat.le_of_ble_eq_true rfl, Nat.le_of_ble_eq_true rfl, Nat.le_of_ble_eq_true rfl, Nat.le_of_ble_eq_true rfl⟩ (Nat.le_of_ble_eq_true rfl) rfl rfl rfl rfl ?_
  refine zi_aload_n 0 d_Jl_charAt_6 rfl ?_
  refine zi_iload_n 1 d_Jl_charAt_7 rfl ?_
  obtain ⟨v3, ev3, h⟩ := zbind h
  refine zo_litb 9 d_Jl_charAt_8 ev3 rfl ?_
  refine zi_sipush 255 d_Jl_charAt_9 rfl ?_
  refine zi_iand d_Jl_charAt_12 ?_
  refine zi_i2c d_Jl_charAt_13 ?_
  cases h
  exact zo_ret d_Jl_charAt_14 (Nat.le_of_ble_eq_true rfl) (Nat.le_of_ble_eq_true rfl) rfl
theorem C_Jl_charAt (n : Nat) (E : zE) (S : zS) (i0 : Nat) (x1 : Int32) (M : zH) (r : Int32) (M' : zH) (h : F_Jl_charAt n E S i0 x1 M = some (r, M')) : zC E Y_Jl_charAt [.ref (eV E i0), .int x1] S M (some (.int r), S, M') := by
  unfold F_Jl_charAt at h
  obtain ⟨q, e, h⟩ := zbind h
  split at h
  case isFalse => cases h
  case isTrue c1 =>
    cases h
    exact zC.of (Or.inl (show plainName "java/lang/StringLatin1" = true by decide)) (Nat.le_of_ble_eq_true rfl) (by have h9 := pk_nc r; rw [c1] at h9; exact h9) (K_Jl_charAt_i n E S i0 x1 M r M' e)
def Y_Js_charAt : zY := (⟨"java/lang/String","charAt","(I)C"⟩, prog_18_method_56_code, 2, some .char, 4, 0, 0)
theorem dd_Js_charAt : (⟨"java/lang/String","charAt","(I)C"⟩ : MethodName).cls = "java/lang/String" ∧ (⟨"java/lang/String","charAt","(I)C"⟩ : MethodName).cls ≠ "java/lang/invoke/MethodHandle" ∧ (⟨"java/lang/String","charAt","(I)C"⟩ : MethodName).cls ≠ "java/lang/invoke/VarHandle" ∧ (parseMethodDescriptor (⟨"java/lang/String","charAt","(I)C"⟩ : MethodName).desc).map (fun d => d.parameters.length) = some 1 := by decide +kernel
theorem d_Js_charAt_0 : decode (yB Y_Js_charAt) 0 = .ok (.aload_n 0, 1) := by decide +kernel
theorem d_Js_charAt_1 : decode (yB Y_Js_charAt) 1 = .ok (.invokevirtual 492, 3) := by decide +kernel
theorem d_Js_charAt_4 : decode (yB Y_Js_charAt) 4 = .ok (.ifCond .eq 12, 3) := by decide +kernel
theorem d_Js_charAt_7 : decode (yB Y_Js_charAt) 7 = .ok (.aload_n 0, 1) := by decide +kernel
theorem d_Js_charAt_8 : decode (yB Y_Js_charAt) 8 = .ok (.getfield 9, 3) := by decide +kernel
theorem d_Js_charAt_11 : decode (yB Y_Js_charAt) 11 = .ok (.iload_n 1, 1) := by decide +kernel
theorem d_Js_charAt_12 : decode (yB Y_Js_charAt) 12 = .ok (.invokestatic 495, 3) := by decide +kernel
theorem d_Js_charAt_15 : decode (yB Y_Js_charAt) 15 = .ok (.ireturn, 1) := by decide +kernel
def F_Js_charAt_i (n : Nat) (E : zE) (S : zS) (i0 : Nat) (x1 : Int32) (M : zH) : Option (Int32 × zH) :=
  (zli i0).bind fun u1 =>
  (F_Js_isLatin1 n E S i0 M).bind fun q2 =>
  if q2.1 = true then
    (zli i0).bind fun u4 =>
    (F_Jl_charAt n E S i0 x1 q2.2).bind fun q5 =>
    some (q5.1, q5.2)
  else
    none
def F_Js_charAt (n : Nat) (E : zE) (S : zS) (i0 : Nat) (x1 : Int32) (M : zH) : Option (Int32 × zH) := (F_Js_charAt_i n E S i0 x1 M).bind fun q => if (q.1.toUInt32 % 65536).toInt32 = q.1 then some q else none
theorem K_Js_charAt_i (n : Nat) (E : zE) (S : zS) (i0 : Nat) (x1 : Int32) (M : zH) (r : Int32) (M' : zH)  (h : F_Js_charAt_i n E S i0 x1 M = some (r, M')) : zG E Y_Js_charAt (some (.int r), S, M') 0 [(0, .ref (eK E i0)), (1, .int x1)] [] S M 0 0 := by
  unfold F_Js_charAt_i at h
  refine zi_aload_n 0 d_Js_charAt_0 rfl ?_
  obtain ⟨u1, eu1, h⟩ := zbind h
  obtain ⟨q2, eq2, h⟩ := zbind h
  refine zo_virtS 4 [] [] [.int (bI q2.1)] (zli_s eu1) (C_Js_isLatin1 n E S i0 M q2.1 q2.2 eq2) d_Js_charAt_1 tw_613 tw_610 tw_611 tw_612 tw_15 dd_Js_isLatin1 ⟨Nat.le_of_ble_eq_true rfl, Nat.le_of_ble_eq_true rfl, Nat.le_of_ble_eq_true rfl, Nat.le_of_ble_eq_true rfl⟩ (Nat.le_of_ble_eq_true rfl) rfl rfl rfl rfl ?_
  refine zo_ifeqB d_Js_charAt_4 rfl 7 rfl (fun c3 => ?_) (fun c3 => ?_)
  · rw [if_neg c3] at h
    cases h
  · rw [if_pos c3] at h
    refine zi_aload_n 0 d_Js_charAt_7 rfl ?_
    obtain ⟨u4, eu4, h⟩ := zbind h
    refine zo_litf 11 d_Js_charAt_8 (zlitV E (zli_s eu4)) tw_1915 rfl ?_
    refine zi_iload_n 1 d_Js_charAt_11 rfl ?_
    obtain ⟨q5, eq5, h⟩ := zbind h
    refine zo_stat 15 [.ref (eV E i0), .int x1] [] [.int q5.1] (C_Jl_charAt n E S i0 x1 q2.2 q5.1 q5.2 eq5) d_Js_charAt_12 tw_616 tw_614 tw_615 tw_16 dd_Jl_charAt ⟨Nat.le_of_ble_eq_true rfl, Nat.le_of_ble_eq_true rfl, Nat.le_of_ble_eq_true rfl, Nat.le_of_ble_eq_true rfl⟩ (Nat.le_of_ble_eq_true rfl) rfl rfl rfl rfl ?_
    cases h
    exact zo_ret d_Js_charAt_15 (Nat.le_of_ble_eq_true rfl) (Nat.le_of_ble_eq_true rfl) rfl
theorem C_Js_charAt (n : Nat) (E : zE) (S : zS) (i0 : Nat) (x1 : Int32) (M : zH) (r : Int32) (M' : zH) (h : F_Js_charAt n E S i0 x1 M = some (r, M')) : zC E Y_Js_charAt [.ref (eK E i0), .int x1] S M (some (.int r), S, M') := by
  unfold F_Js_charAt at h
  obtain ⟨q, e, h⟩ := zbind h
  split at h
  case isFalse => cases h
  case isTrue c1 =>
    cases h
    exact zC.of (Or.inl (show plainName "java/lang/String" = true by decide)) (Nat.le_of_ble_eq_true rfl) (by have h9 := pk_nc r; rw [c1] at h9; exact h9) (K_Js_charAt_i n E S i0 x1 M r M' e)
def Y_Ta_isSame : zY := (⟨"NightColander$Tape","isSame","(Ljava/lang/String;II)Z"⟩, prog_10_method_15_code, 5, some .boolean, 5, 0, 0)
theorem dd_Ta_isSame : (⟨"NightColander$Tape","isSame","(Ljava/lang/String;II)Z"⟩ : MethodName).cls = "NightColander$Tape" ∧ (⟨"NightColander$Tape","isSame","(Ljava/lang/String;II)Z"⟩ : MethodName).cls ≠ "java/lang/invoke/MethodHandle" ∧ (⟨"NightColander$Tape","isSame","(Ljava/lang/String;II)Z"⟩ : MethodName).cls ≠ "java/lang/invoke/VarHandle" ∧ (parseMethodDescriptor (⟨"NightColander$Tape","isSame","(Ljava/lang/String;II)Z"⟩ : MethodName).desc).map (fun d => d.parameters.length) = some 3 := by decide +kernel
theorem d_Ta_isSame_0 : decode (yB Y_Ta_isSame) 0 = .ok (.iload_n 3, 1) := by decide +kernel
theorem d_Ta_isSame_1 : decode (yB Y_Ta_isSame) 1 = .ok (.iload_n 2, 1) := by decide +kernel
theorem d_Ta_isSame_2 : decode (yB Y_Ta_isSame) 2 = .ok (.isub, 1) := by decide +kernel
theorem d_Ta_isSame_3 : decode (yB Y_Ta_isSame) 3 = .ok (.aload_n 0, 1) := by decide +kernel
theorem d_Ta_isSame_4 : decode (yB Y_Ta_isSame) 4 = .ok (.getfield 25, 3) := by decide +kernel
theorem d_Ta_isSame_7 : decode (yB Y_Ta_isSame) 7 = .ok (.aload_n 0, 1) := by decide +kernel
theorem d_Ta_isSame_8 : decode (yB Y_Ta_isSame) 8 = .ok (.getfield 22, 3) := by decide +kernel
theorem d_Ta_isSame_11 : decode (yB Y_Ta_isSame) 11 = .ok (.isub, 1) := by decide +kernel
theorem d_Ta_isSame_12 : decode (yB Y_Ta_isSame) 12 = .ok (.if_icmp .eq 5, 3) := by decide +kernel
theorem d_Ta_isSame_15 : decode (yB Y_Ta_isSame) 15 = .ok (.iconst 0, 1) := by decide +kernel
theorem d_Ta_isSame_16 : decode (yB Y_Ta_isSame) 16 = .ok (.ireturn, 1) := by decide +kernel
theorem d_Ta_isSame_17 : decode (yB Y_Ta_isSame) 17 = .ok (.iload_n 2, 1) := by decide +kernel
theorem d_Ta_isSame_18 : decode (yB Y_Ta_isSame) 18 = .ok (.istore 4, 2) := by decide +kernel
theorem d_Ta_isSame_20 : decode (yB Y_Ta_isSame) 20 = .ok (.iload 4, 2) := by decide +kernel
theorem d_Ta_isSame_22 : decode (yB Y_Ta_isSame) 22 = .ok (.iload_n 3, 1) := by decide +kernel
theorem d_Ta_isSame_23 : decode (yB Y_Ta_isSame) 23 = .ok (.if_icmp .ge 33, 3) := by decide +kernel
theorem d_Ta_isSame_26 : decode (yB Y_Ta_isSame) 26 = .ok (.aload_n 1, 1) := by decide +kernel
theorem d_Ta_isSame_27 : decode (yB Y_Ta_isSame) 27 = .ok (.iload 4, 2) := by decide +kernel
theorem d_Ta_isSame_29 : decode (yB Y_Ta_isSame) 29 = .ok (.invokevirtual 64, 3) := by decide +kernel
theorem d_Ta_isSame_32 : decode (yB Y_Ta_isSame) 32 = .ok (.aload_n 0, 1) := by decide +kernel
theorem d_Ta_isSame_33 : decode (yB Y_Ta_isSame) 33 = .ok (.aload_n 0, 1) := by decide +kernel
theorem d_Ta_isSame_34 : decode (yB Y_Ta_isSame) 34 = .ok (.getfield 22, 3) := by decide +kernel
theorem d_Ta_isSame_37 : decode (yB Y_Ta_isSame) 37 = .ok (.iload 4, 2) := by decide +kernel
theorem d_Ta_isSame_39 : decode (yB Y_Ta_isSame) 39 = .ok (.iadd, 1) := by decide +kernel
theorem d_Ta_isSame_40 : decode (yB Y_Ta_isSame) 40 = .ok (.iload_n 2, 1) := by decide +kernel
theorem d_Ta_isSame_41 : decode (yB Y_Ta_isSame) 41 = .ok (.isub, 1) := by decide +kernel
theorem d_Ta_isSame_42 : decode (yB Y_Ta_isSame) 42 = .ok (.invokevirtual 34, 3) := by decide +kernel
theorem d_Ta_isSame_45 : decode (yB Y_Ta_isSame) 45 = .ok (.if_icmp .eq 5, 3) := by decide +kernel
theorem d_Ta_isSame_48 : decode (yB Y_Ta_isSame) 48 = .ok (.iconst 0, 1) := by decide +kernel
theorem d_Ta_isSame_49 : decode (yB Y_Ta_isSame) 49 = .ok (.ireturn, 1) := by decide +kernel
theorem d_Ta_isSame_50 : decode (yB Y_Ta_isSame) 50 = .ok (.iinc 4 1, 3) := by decide +kernel
theorem d_Ta_isSame_53 : decode (yB Y_Ta_isSame) 53 = .ok (.goto (-33), 3) := by decide +kernel
theorem d_Ta_isSame_56 : decode (yB Y_Ta_isSame) 56 = .ok (.iconst 1, 1) := by decide +kernel
theorem d_Ta_isSame_57 : decode (yB Y_Ta_isSame) 57 = .ok (.ireturn, 1) := by decide +kernel
def F_Ta_isSame_L20 (n : Nat) (E : zE) (S : zS) (r20 : Nat × Nat × Int32 × Int32 × Int32 × zH → Option (Bool × zH)) (a0 : Nat) (i1 : Nat) (x2 : Int32) (x3 : Int32) (x4 : Int32) (M : zH) : Option (Bool × zH) :=
  if x3 ≤ x4 then
    some (true, M)
  else
    (zli i1).bind fun u2 =>
    (F_Js_charAt n E S i1 x4 M).bind fun q3 =>
    (zgI S q3.2 a0 8 3).bind fun v4 =>
    (F_Ta_byteAt n E S a0 ((v4 + x4) - x2) q3.2).bind fun q5 =>
    if q3.1 = q5.1 then
      r20 (a0, i1, x2, x3, x4 + 1, q5.2)
    else
      some (false, q5.2)
def F_Ta_isSame_b20 (n : Nat) (E : zE) (S : zS) : Nat × Nat × Int32 × Int32 × Int32 × zH → Option (Bool × zH) := zfix (fun r20 s => F_Ta_isSame_L20 n E S r20 s.1 s.2.1 s.2.2.1 s.2.2.2.1 s.2.2.2.2.1 s.2.2.2.2.2) n
def F_Ta_isSame (n : Nat) (E : zE) (S : zS) (a0 : Nat) (i1 : Nat) (x2 : Int32) (x3 : Int32) (M : zH) : Option (Bool × zH) :=
  (zgI S M a0 8 4).bind fun v7 =>
  (zgI S M a0 8 3).bind fun v8 =>
  if (x3 - x2) = (v7 - v8) then
    F_Ta_isSame_b20 n E S (a0, i1, x2, x3, x2, M)
  else
    some (false, M)
theorem K_Ta_isSame_L20 (n : Nat) (E : zE) (S : zS) (r20 : Nat × Nat × Int32 × Int32 × Int32 × zH → Option (Bool × zH)) (a0 : Nat) (i1 : Nat) (x2 : Int32) (x3 : Int32) (x4 : Int32) (M : zH) (r : Bool) (M' : zH) (hr20 : ∀ (a0 : Nat) (i1 : Nat) (x2 : Int32) (x3 : Int32) (x4 : Int32) (M : zH), r20 (a0, i1, x2, x3, x4, M) = some (r, M') → zG E Y_Ta_isSame (some (.int (bI r)), S, M') 20 [(0, .ref a0), (1, .ref (eK E i1)), (2, .int x2), (3, .int x3), (4, .int x4)] [] S M 0 0) (h : F_Ta_isSame_L20 n E S r20 a0 i1 x2 x3 x4 M = some (r, M')) : zG E Y_Ta_isSame (some (.int (bI r)), S, M') 20 [(0, .ref a0), (1, .ref (eK E i1)), (2, .int x2), (3, .int x3), (4, .int x4)] [] S M 0 0 := by
  unfold F_Ta_isSame_L20 at h
  refine zi_iload 4 d_Ta_isSame_20 rfl ?_
  refine zi_iload_n 3 d_Ta_isSame_22 rfl ?_
  refine zi_icmp_ge (tgt := 56) d_Ta_isSame_23 rfl (fun c1 => ?_) (fun c1 => ?_)
  · rw [if_pos c1] at h
    refine zi_iconst 1 d_Ta_isSame_56 rfl ?_
    cases h
    exact zo_retB d_Ta_isSame_57 (Nat.le_of_ble_eq_true rfl) (Nat.le_of_ble_eq_true rfl) rfl
  · rw [if_neg c1] at h
    refine zi_aload_n 1 d_Ta_isSame_26 rfl ?_
    refine zi_iload 4 d_Ta_isSame_27 rfl ?_
    obtain ⟨u2, eu2, h⟩ := zbind h
    obtain ⟨q3, eq3, h⟩ := zbind h
    refine zo_virtS 32 [.int x4] [] [.int q3.1] (zli_s eu2) (C_Js_charAt n E S i1 x4 M q3.1 q3.2 eq3) d_Ta_isSame_29 tw_609 tw_606 tw_607 tw_608 tw_15 dd_Js_charAt ⟨Nat.le_of_ble_eq_true rfl, Nat.le_of_ble_eq_true rfl, Nat.le_of_ble_eq_true rfl, Nat.le_of_ble_eq_true rfl⟩ (Nat.le_of_ble_eq_true rfl) rfl rfl rfl rfl ?_
    refine zi_aload_n 0 d_Ta_isSame_32 rfl ?_
    refine zi_aload_n 0 d_Ta_isSame_33 rfl ?_
    obtain ⟨v4, ev4, h⟩ := zbind h
    refine zo_getI 37 zkd_8 3 d_Ta_isSame_34 ev4 rfl tw_156 rfl ?_
    refine zi_iload 4 d_Ta_isSame_37 rfl ?_
    refine zi_iadd d_Ta_isSame_39 ?_
    refine zi_iload_n 2 d_Ta_isSame_40 rfl ?_
    refine zi_isub d_Ta_isSame_41 ?_
    obtain ⟨q5, eq5, h⟩ := zbind h
    refine zo_virt 45 [.int ((v4 + x4) - x2)] [.int q3.1] [.int q5.1, .int q3.1] zkd_8 (zgI_s ev4).1 (C_Ta_byteAt n E S a0 ((v4 + x4) - x2) q3.2 q5.1 q5.2 eq5) d_Ta_isSame_42 tw_553 tw_578 tw_551 tw_552 tw_5 dd_Ta_byteAt ⟨Nat.le_of_ble_eq_true rfl, Nat.le_of_ble_eq_true rfl, Nat.le_of_ble_eq_true rfl, Nat.le_of_ble_eq_true rfl⟩ (Nat.le_of_ble_eq_true rfl) rfl rfl rfl rfl ?_
    refine zi_icmp_eq (tgt := 50) d_Ta_isSame_45 rfl (fun c6 => ?_) (fun c6 => ?_)
    · rw [if_pos c6] at h
      refine zi_iinc 4 (x4 + 1) [(4, .int (x4 + 1)), (0, .ref a0), (1, .ref (eK E i1)), (2, .int x2), (3, .int x3)] d_Ta_isSame_50 rfl rfl (by decide) rfl ?_
      refine zi_goto (tgt := 20) d_Ta_isSame_53 rfl ?_
      refine zi_lo [(0, .ref a0), (1, .ref (eK E i1)), (2, .int x2), (3, .int x3), (4, .int (x4 + 1))] [1, 2, 3, 4, 0] rfl ?_
      exact hr20 a0 i1 x2 x3 (x4 + 1) q5.2 h
    · rw [if_neg c6] at h
      refine zi_iconst 0 d_Ta_isSame_48 rfl ?_
      cases h
      exact zo_retB d_Ta_isSame_49 (Nat.le_of_ble_eq_true rfl) (Nat.le_of_ble_eq_true rfl) rfl
theorem K_Ta_isSame_b20 (n : Nat) (E : zE) (S : zS) (a0 : Nat) (i1 : Nat) (x2 : Int32) (x3 : Int32) (x4 : Int32) (M : zH) (r : Bool) (M' : zH)  (h : F_Ta_isSame_b20 n E S (a0, i1, x2, x3, x4, M) = some (r, M')) : zG E Y_Ta_isSame (some (.int (bI r)), S, M') 20 [(0, .ref a0), (1, .ref (eK E i1)), (2, .int x2), (3, .int x3), (4, .int x4)] [] S M 0 0 := by
  have key : ∀ (k : Nat) (a0 : Nat) (i1 : Nat) (x2 : Int32) (x3 : Int32) (x4 : Int32) (M : zH), zfix (fun r20 s => F_Ta_isSame_L20 n E S r20 s.1 s.2.1 s.2.2.1 s.2.2.2.1 s.2.2.2.2.1 s.2.2.2.2.2) k (a0, i1, x2, x3, x4, M) = some (r, M') → zG E Y_Ta_isSame (some (.int (bI r)), S, M') 20 [(0, .ref a0), (1, .ref (eK E i1)), (2, .int x2), (3, .int x3), (4, .int x4)] [] S M 0 0 := by
    intro k
    induction k with
    | zero => intro a0 i1 x2 x3 x4 M h; cases h
    | succ k ih => intro a0 i1 x2 x3 x4 M h; exact K_Ta_isSame_L20 n E S _ a0 i1 x2 x3 x4 M r M'  (fun a0 i1 x2 x3 x4 M h => ih a0 i1 x2 x3 x4 M h) h
  exact key n a0 i1 x2 x3 x4 M h
theorem K_Ta_isSame (n : Nat) (E : zE) (S : zS) (a0 : Nat) (i1 : Nat) (x2 : Int32) (x3 : Int32) (M : zH) (r : Bool) (M' : zH)  (h : F_Ta_isSame n E S a0 i1 x2 x3 M = some (r, M')) : zG E Y_Ta_isSame (some (.int (bI r)), S, M') 0 [(0, .ref a0), (1, .ref (eK E i1)), (2, .int x2), (3, .int x3)] [] S M 0 0 := by
  unfold F_Ta_isSame at h
  refine zi_iload_n 3 d_Ta_isSame_0 rfl ?_
  refine zi_iload_n 2 d_Ta_isSame_1 rfl ?_
  refine zi_isub d_Ta_isSame_2 ?_
  refine zi_aload_n 0 d_Ta_isSame_3 rfl ?_
  obtain ⟨v7, ev7, h⟩ := zbind h
  refine zo_getI 7 zkd_8 4 d_Ta_isSame_4 ev7 rfl tw_157 rfl ?_
  refine zi_aload_n 0 d_Ta_isSame_7 rfl ?_
  obtain ⟨v8, ev8, h⟩ := zbind h
  refine zo_getI 11 zkd_8 3 d_Ta_isSame_8 ev8 rfl tw_156 rfl ?_
  refine zi_isub d_Ta_isSame_11 ?_
  refine zi_icmp_eq (tgt := 17) d_Ta_isSame_12 rfl (fun c9 => ?_) (fun c9 => ?_)
  · rw [if_pos c9] at h
    refine zi_iload_n 2 d_Ta_isSame_17 rfl ?_
    refine zi_istore [(4, .int x2), (0, .ref a0), (1, .ref (eK E i1)), (2, .int x2), (3, .int x3)] d_Ta_isSame_18 (by decide) rfl ?_
    refine zi_lo [(0, .ref a0), (1, .ref (eK E i1)), (2, .int x2), (3, .int x3), (4, .int x2)] [1, 2, 3, 4, 0] rfl ?_
    exact K_Ta_isSame_b20 n E S a0 i1 x2 x3 x2 M r M'  h
  · rw [if_neg c9] at h
    refine zi_iconst 0 d_Ta_isSame_15 rfl ?_
    cases h
    exact zo_retB d_Ta_isSame_16 (Nat.le_of_ble_eq_true rfl) (Nat.le_of_ble_eq_true rfl) rfl
theorem C_Ta_isSame (n : Nat) (E : zE) (S : zS) (a0 : Nat) (i1 : Nat) (x2 : Int32) (x3 : Int32) (M : zH) (r : Bool) (M' : zH) (h : F_Ta_isSame n E S a0 i1 x2 x3 M = some (r, M')) : zC E Y_Ta_isSame [.ref a0, .ref (eK E i1), .int x2, .int x3] S M (some (.int (bI r)), S, M') :=
  zC.of (Or.inl (show plainName "NightColander$Tape" = true by decide)) (Nat.le_of_ble_eq_true rfl) (bI_nar r) (K_Ta_isSame n E S a0 i1 x2 x3 M r M' h)
def Y_Js_coder : zY := (⟨"java/lang/String","coder","()B"⟩, prog_18_method_152_code, 1, some .byte, 1, 0, 0)
theorem dd_Js_coder : (⟨"java/lang/String","coder","()B"⟩ : MethodName).cls = "java/lang/String" ∧ (⟨"java/lang/String","coder","()B"⟩ : MethodName).cls ≠ "java/lang/invoke/MethodHandle" ∧ (⟨"java/lang/String","coder","()B"⟩ : MethodName).cls ≠ "java/lang/invoke/VarHandle" ∧ (parseMethodDescriptor (⟨"java/lang/String","coder","()B"⟩ : MethodName).desc).map (fun d => d.parameters.length) = some 0 := by decide +kernel
theorem d_Js_coder_0 : decode (yB Y_Js_coder) 0 = .ok (.getstatic 38, 3) := by decide +kernel
theorem d_Js_coder_3 : decode (yB Y_Js_coder) 3 = .ok (.ifCond .eq 10, 3) := by decide +kernel
theorem d_Js_coder_6 : decode (yB Y_Js_coder) 6 = .ok (.aload_n 0, 1) := by decide +kernel
theorem d_Js_coder_7 : decode (yB Y_Js_coder) 7 = .ok (.getfield 15, 3) := by decide +kernel
theorem d_Js_coder_10 : decode (yB Y_Js_coder) 10 = .ok (.goto 4, 3) := by decide +kernel
theorem d_Js_coder_13 : decode (yB Y_Js_coder) 13 = .ok (.iconst 1, 1) := by decide +kernel
theorem d_Js_coder_14 : decode (yB Y_Js_coder) 14 = .ok (.ireturn, 1) := by decide +kernel
def F_Js_coder_i (n : Nat) (E : zE) (S : zS) (i0 : Nat) (M : zH) : Option (Int32 × zH) :=
  if (1 : Int32) = 0 then
    some (1, M)
  else
    (zli i0).bind fun u2 =>
    some (0, M)
def F_Js_coder (n : Nat) (E : zE) (S : zS) (i0 : Nat) (M : zH) : Option (Int32 × zH) := (F_Js_coder_i n E S i0 M).bind fun q => if q.1.toInt8.toInt32 = q.1 then some q else none
theorem K_Js_coder_i (n : Nat) (E : zE) (S : zS) (i0 : Nat) (M : zH) (r : Int32) (M' : zH)  (h : F_Js_coder_i n E S i0 M = some (r, M')) : zG E Y_Js_coder (some (.int r), S, M') 0 [(0, .ref (eK E i0))] [] S M 0 0 := by
  unfold F_Js_coder_i at h
  refine zo_gets (v := .int 1) 3 d_Js_coder_0 (zstc E) tw_604 rfl ?_
  refine zi_if_eq (tgt := 13) d_Js_coder_3 rfl (fun c1 => ?_) (fun c1 => ?_)
  · rw [if_pos c1] at h
    refine zi_iconst 1 d_Js_coder_13 rfl ?_
    cases h
    exact zo_ret d_Js_coder_14 (Nat.le_of_ble_eq_true rfl) (Nat.le_of_ble_eq_true rfl) rfl
  · rw [if_neg c1] at h
    refine zi_aload_n 0 d_Js_coder_6 rfl ?_
    obtain ⟨u2, eu2, h⟩ := zbind h
    refine zo_litf 10 d_Js_coder_7 (zlitC E (zli_s eu2)) tw_1916 rfl ?_
    refine zi_goto (tgt := 14) d_Js_coder_10 rfl ?_
    cases h
    exact zo_ret d_Js_coder_14 (Nat.le_of_ble_eq_true rfl) (Nat.le_of_ble_eq_true rfl) rfl
theorem C_Js_coder (n : Nat) (E : zE) (S : zS) (i0 : Nat) (M : zH) (r : Int32) (M' : zH) (h : F_Js_coder n E S i0 M = some (r, M')) : zC E Y_Js_coder [.ref (eK E i0)] S M (some (.int r), S, M') := by
  unfold F_Js_coder at h
  obtain ⟨q, e, h⟩ := zbind h
  split at h
  case isFalse => cases h
  case isTrue c1 =>
    cases h
    exact zC.of (Or.inl (show plainName "java/lang/String" = true by decide)) (Nat.le_of_ble_eq_true rfl) (by have h9 := pk_nb r; rw [c1] at h9; exact h9) (K_Js_coder_i n E S i0 M r M' e)
def Y_Js_length : zY := (⟨"java/lang/String","length","()I"⟩, prog_18_method_54_code, 1, some .int, 2, 0, 0)
theorem dd_Js_length : (⟨"java/lang/String","length","()I"⟩ : MethodName).cls = "java/lang/String" ∧ (⟨"java/lang/String","length","()I"⟩ : MethodName).cls ≠ "java/lang/invoke/MethodHandle" ∧ (⟨"java/lang/String","length","()I"⟩ : MethodName).cls ≠ "java/lang/invoke/VarHandle" ∧ (parseMethodDescriptor (⟨"java/lang/String","length","()I"⟩ : MethodName).desc).map (fun d => d.parameters.length) = some 0 := by decide +kernel
theorem d_Js_length_0 : decode (yB Y_Js_length) 0 = .ok (.aload_n 0, 1) := by decide +kernel
theorem d_Js_length_1 : decode (yB Y_Js_length) 1 = .ok (.getfield 9, 3) := by decide +kernel
theorem d_Js_length_4 : decode (yB Y_Js_length) 4 = .ok (.arraylength, 1) := by decide +kernel
theorem d_Js_length_5 : decode (yB Y_Js_length) 5 = .ok (.aload_n 0, 1) := by decide +kernel
theorem d_Js_length_6 : decode (yB Y_Js_length) 6 = .ok (.invokevirtual 335, 3) := by decide +kernel
theorem d_Js_length_9 : decode (yB Y_Js_length) 9 = .ok (.ishr, 1) := by decide +kernel
theorem d_Js_length_10 : decode (yB Y_Js_length) 10 = .ok (.ireturn, 1) := by decide +kernel
def F_Js_length (n : Nat) (E : zE) (S : zS) (i0 : Nat) (M : zH) : Option (Int32 × zH) :=
  (zli i0).bind fun u1 =>
  (zln i0).bind fun v2 =>
  (zli i0).bind fun u3 =>
  (F_Js_coder n E S i0 M).bind fun q4 =>
  some (v2 >>> (q4.1 &&& 31), q4.2)
theorem K_Js_length (n : Nat) (E : zE) (S : zS) (i0 : Nat) (M : zH) (r : Int32) (M' : zH)  (h : F_Js_length n E S i0 M = some (r, M')) : zG E Y_Js_length (some (.int r), S, M') 0 [(0, .ref (eK E i0))] [] S M 0 0 := by
  unfold F_Js_length at h
  refine zi_aload_n 0 d_Js_length_0 rfl ?_
  obtain ⟨u1, eu1, h⟩ := zbind h
  refine zo_litf 4 d_Js_length_1 (zlitV E (zli_s eu1)) tw_1915 rfl ?_
  obtain ⟨v2, ev2, h⟩ := zbind h
  refine zo_litlen 5 d_Js_length_4 ev2 rfl ?_
  refine zi_aload_n 0 d_Js_length_5 rfl ?_
  obtain ⟨u3, eu3, h⟩ := zbind h
  obtain ⟨q4, eq4, h⟩ := zbind h
  refine zo_virtS 9 [] [.int v2] [.int q4.1, .int v2] (zli_s eu3) (C_Js_coder n E S i0 M q4.1 q4.2 eq4) d_Js_length_6 tw_603 tw_600 tw_601 tw_602 tw_15 dd_Js_coder ⟨Nat.le_of_ble_eq_true rfl, Nat.le_of_ble_eq_true rfl, Nat.le_of_ble_eq_true rfl, Nat.le_of_ble_eq_true rfl⟩ (Nat.le_of_ble_eq_true rfl) rfl rfl rfl rfl ?_
  refine zi_ishr d_Js_length_9 ?_
  cases h
  exact zo_ret d_Js_length_10 (Nat.le_of_ble_eq_true rfl) (Nat.le_of_ble_eq_true rfl) rfl
theorem C_Js_length (n : Nat) (E : zE) (S : zS) (i0 : Nat) (M : zH) (r : Int32) (M' : zH) (h : F_Js_length n E S i0 M = some (r, M')) : zC E Y_Js_length [.ref (eK E i0)] S M (some (.int r), S, M') :=
  zC.of (Or.inl (show plainName "java/lang/String" = true by decide)) (Nat.le_of_ble_eq_true rfl) (trivial) (K_Js_length n E S i0 M r M' h)
def Y_Ta_indexIn : zY := (⟨"NightColander$Tape","indexIn","(Ljava/lang/String;)I"⟩, prog_10_method_13_code, 5, some .int, 6, 0, 0)
theorem dd_Ta_indexIn : (⟨"NightColander$Tape","indexIn","(Ljava/lang/String;)I"⟩ : MethodName).cls = "NightColander$Tape" ∧ (⟨"NightColander$Tape","indexIn","(Ljava/lang/String;)I"⟩ : MethodName).cls ≠ "java/lang/invoke/MethodHandle" ∧ (⟨"NightColander$Tape","indexIn","(Ljava/lang/String;)I"⟩ : MethodName).cls ≠ "java/lang/invoke/VarHandle" ∧ (parseMethodDescriptor (⟨"NightColander$Tape","indexIn","(Ljava/lang/String;)I"⟩ : MethodName).desc).map (fun d => d.parameters.length) = some 1 := by decide +kernel
theorem d_Ta_indexIn_0 : decode (yB Y_Ta_indexIn) 0 = .ok (.aload_n 0, 1) := by decide +kernel
theorem d_Ta_indexIn_1 : decode (yB Y_Ta_indexIn) 1 = .ok (.getfield 19, 3) := by decide +kernel
theorem d_Ta_indexIn_4 : decode (yB Y_Ta_indexIn) 4 = .ok (.iconst 1, 1) := by decide +kernel
theorem d_Ta_indexIn_5 : decode (yB Y_Ta_indexIn) 5 = .ok (.if_icmp .eq 5, 3) := by decide +kernel
theorem d_Ta_indexIn_8 : decode (yB Y_Ta_indexIn) 8 = .ok (.iconst (-1), 1) := by decide +kernel
theorem d_Ta_indexIn_9 : decode (yB Y_Ta_indexIn) 9 = .ok (.ireturn, 1) := by decide +kernel
theorem d_Ta_indexIn_10 : decode (yB Y_Ta_indexIn) 10 = .ok (.iconst 0, 1) := by decide +kernel
theorem d_Ta_indexIn_11 : decode (yB Y_Ta_indexIn) 11 = .ok (.istore_n 2, 1) := by decide +kernel
theorem d_Ta_indexIn_12 : decode (yB Y_Ta_indexIn) 12 = .ok (.iconst 0, 1) := by decide +kernel
theorem d_Ta_indexIn_13 : decode (yB Y_Ta_indexIn) 13 = .ok (.istore_n 3, 1) := by decide +kernel
theorem d_Ta_indexIn_14 : decode (yB Y_Ta_indexIn) 14 = .ok (.iconst 0, 1) := by decide +kernel
theorem d_Ta_indexIn_15 : decode (yB Y_Ta_indexIn) 15 = .ok (.istore 4, 2) := by decide +kernel
theorem d_Ta_indexIn_17 : decode (yB Y_Ta_indexIn) 17 = .ok (.iload 4, 2) := by decide +kernel
theorem d_Ta_indexIn_19 : decode (yB Y_Ta_indexIn) 19 = .ok (.aload_n 1, 1) := by decide +kernel
theorem d_Ta_indexIn_20 : decode (yB Y_Ta_indexIn) 20 = .ok (.invokevirtual 51, 3) := by decide +kernel
theorem d_Ta_indexIn_23 : decode (yB Y_Ta_indexIn) 23 = .ok (.if_icmp .ge 41, 3) := by decide +kernel
theorem d_Ta_indexIn_26 : decode (yB Y_Ta_indexIn) 26 = .ok (.aload_n 1, 1) := by decide +kernel
theorem d_Ta_indexIn_27 : decode (yB Y_Ta_indexIn) 27 = .ok (.iload 4, 2) := by decide +kernel
theorem d_Ta_indexIn_29 : decode (yB Y_Ta_indexIn) 29 = .ok (.invokevirtual 64, 3) := by decide +kernel
theorem d_Ta_indexIn_32 : decode (yB Y_Ta_indexIn) 32 = .ok (.bipush 32, 2) := by decide +kernel
theorem d_Ta_indexIn_34 : decode (yB Y_Ta_indexIn) 34 = .ok (.if_icmp .ne 24, 3) := by decide +kernel
theorem d_Ta_indexIn_37 : decode (yB Y_Ta_indexIn) 37 = .ok (.aload_n 0, 1) := by decide +kernel
theorem d_Ta_indexIn_38 : decode (yB Y_Ta_indexIn) 38 = .ok (.aload_n 1, 1) := by decide +kernel
theorem d_Ta_indexIn_39 : decode (yB Y_Ta_indexIn) 39 = .ok (.iload_n 3, 1) := by decide +kernel
theorem d_Ta_indexIn_40 : decode (yB Y_Ta_indexIn) 40 = .ok (.iload 4, 2) := by decide +kernel
theorem d_Ta_indexIn_42 : decode (yB Y_Ta_indexIn) 42 = .ok (.invokevirtual 56, 3) := by decide +kernel
theorem d_Ta_indexIn_45 : decode (yB Y_Ta_indexIn) 45 = .ok (.ifCond .eq 5, 3) := by decide +kernel
theorem d_Ta_indexIn_48 : decode (yB Y_Ta_indexIn) 48 = .ok (.iload_n 2, 1) := by decide +kernel
theorem d_Ta_indexIn_49 : decode (yB Y_Ta_indexIn) 49 = .ok (.ireturn, 1) := by decide +kernel
theorem d_Ta_indexIn_50 : decode (yB Y_Ta_indexIn) 50 = .ok (.iinc 2 1, 3) := by decide +kernel
theorem d_Ta_indexIn_53 : decode (yB Y_Ta_indexIn) 53 = .ok (.iload 4, 2) := by decide +kernel
theorem d_Ta_indexIn_55 : decode (yB Y_Ta_indexIn) 55 = .ok (.iconst 1, 1) := by decide +kernel
theorem d_Ta_indexIn_56 : decode (yB Y_Ta_indexIn) 56 = .ok (.iadd, 1) := by decide +kernel
theorem d_Ta_indexIn_57 : decode (yB Y_Ta_indexIn) 57 = .ok (.istore_n 3, 1) := by decide +kernel
theorem d_Ta_indexIn_58 : decode (yB Y_Ta_indexIn) 58 = .ok (.iinc 4 1, 3) := by decide +kernel
theorem d_Ta_indexIn_61 : decode (yB Y_Ta_indexIn) 61 = .ok (.goto (-44), 3) := by decide +kernel
theorem d_Ta_indexIn_64 : decode (yB Y_Ta_indexIn) 64 = .ok (.iconst (-1), 1) := by decide +kernel
theorem d_Ta_indexIn_65 : decode (yB Y_Ta_indexIn) 65 = .ok (.ireturn, 1) := by decide +kernel
def F_Ta_indexIn_b58 (n : Nat) (E : zE) (S : zS) (r17 : Nat × Nat × Int32 × Int32 × Int32 × zH → Option (Int32 × zH)) (a0 : Nat) (i1 : Nat) (x2 : Int32) (x3 : Int32) (x4 : Int32) (M : zH) : Option (Int32 × zH) :=
  r17 (a0, i1, x2, x3, x4 + 1, M)
def F_Ta_indexIn_L17 (n : Nat) (E : zE) (S : zS) (r17 : Nat × Nat × Int32 × Int32 × Int32 × zH → Option (Int32 × zH)) (a0 : Nat) (i1 : Nat) (x2 : Int32) (x3 : Int32) (x4 : Int32) (M : zH) : Option (Int32 × zH) :=
  (zli i1).bind fun u1 =>
  (F_Js_length n E S i1 M).bind fun q2 =>
  if q2.1 ≤ x4 then
    some ((-1), q2.2)
  else
    (zli i1).bind fun u4 =>
    (F_Js_charAt n E S i1 x4 q2.2).bind fun q5 =>
    if q5.1 = 32 then
      (zck S a0 8).bind fun u7 =>
      (F_Ta_isSame n E S a0 i1 x3 x4 q5.2).bind fun q8 =>
      if q8.1 = true then
        some (x2, q8.2)
      else
        F_Ta_indexIn_b58 n E S r17 a0 i1 (x2 + 1) (x4 + 1) x4 q8.2
    else
      F_Ta_indexIn_b58 n E S r17 a0 i1 x2 x3 x4 q5.2
def F_Ta_indexIn_b17 (n : Nat) (E : zE) (S : zS) : Nat × Nat × Int32 × Int32 × Int32 × zH → Option (Int32 × zH) := zfix (fun r17 s => F_Ta_indexIn_L17 n E S r17 s.1 s.2.1 s.2.2.1 s.2.2.2.1 s.2.2.2.2.1 s.2.2.2.2.2) n
def F_Ta_indexIn (n : Nat) (E : zE) (S : zS) (a0 : Nat) (i1 : Nat) (M : zH) : Option (Int32 × zH) :=
  (zgI S M a0 8 2).bind fun v10 =>
  if v10 = 1 then
    F_Ta_indexIn_b17 n E S (a0, i1, 0, 0, 0, M)
  else
    some ((-1), M)
theorem K_Ta_indexIn_b58 (n : Nat) (E : zE) (S : zS) (r17 : Nat × Nat × Int32 × Int32 × Int32 × zH → Option (Int32 × zH)) (a0 : Nat) (i1 : Nat) (x2 : Int32) (x3 : Int32) (x4 : Int32) (M : zH) (r : Int32) (M' : zH) (hr17 : ∀ (a0 : Nat) (i1 : Nat) (x2 : Int32) (x3 : Int32) (x4 : Int32) (M : zH), r17 (a0, i1, x2, x3, x4, M) = some (r, M') → zG E Y_Ta_indexIn (some (.int r), S, M') 17 [(0, .ref a0), (1, .ref (eK E i1)), (2, .int x2), (3, .int x3), (4, .int x4)] [] S M 0 0) (h : F_Ta_indexIn_b58 n E S r17 a0 i1 x2 x3 x4 M = some (r, M')) : zG E Y_Ta_indexIn (some (.int r), S, M') 58 [(0, .ref a0), (1, .ref (eK E i1)), (2, .int x2), (3, .int x3), (4, .int x4)] [] S M 0 0 := by
  unfold F_Ta_indexIn_b58 at h
  refine zi_iinc 4 (x4 + 1) [(4, .int (x4 + 1)), (0, .ref a0), (1, .ref (eK E i1)), (2, .int x2), (3, .int x3)] d_Ta_indexIn_58 rfl rfl (by decide) rfl ?_
  refine zi_goto (tgt := 17) d_Ta_indexIn_61 rfl ?_
  refine zi_lo [(0, .ref a0), (1, .ref (eK E i1)), (2, .int x2), (3, .int x3), (4, .int (x4 + 1))] [1, 2, 3, 4, 0] rfl ?_
  exact hr17 a0 i1 x2 x3 (x4 + 1) M h
theorem K_Ta_indexIn_L17 (n : Nat) (E : zE) (S : zS) (r17 : Nat × Nat × Int32 × Int32 × Int32 × zH → Option (Int32 × zH)) (a0 : Nat) (i1 : Nat) (x2 : Int32) (x3 : Int32) (x4 : Int32) (M : zH) (r : Int32) (M' : zH) (hr17 : ∀ (a0 : Nat) (i1 : Nat) (x2 : Int32) (x3 : Int32) (x4 : Int32) (M : zH), r17 (a0, i1, x2, x3, x4, M) = some (r, M') → zG E Y_Ta_indexIn (some (.int r), S, M') 17 [(0, .ref a0), (1, .ref (eK E i1)), (2, .int x2), (3, .int x3), (4, .int x4)] [] S M 0 0) (h : F_Ta_indexIn_L17 n E S r17 a0 i1 x2 x3 x4 M = some (r, M')) : zG E Y_Ta_indexIn (some (.int r), S, M') 17 [(0, .ref a0), (1, .ref (eK E i1)), (2, .int x2), (3, .int x3), (4, .int x4)] [] S M 0 0 := by
  unfold F_Ta_indexIn_L17 at h
  refine zi_iload 4 d_Ta_indexIn_17 rfl ?_
  refine zi_aload_n 1 d_Ta_indexIn_19 rfl ?_
  obtain ⟨u1, eu1, h⟩ := zbind h
  obtain ⟨q2, eq2, h⟩ := zbind h
  refine zo_virtS 23 [] [.int x4] [.int q2.1, .int x4] (zli_s eu1) (C_Js_length n E S i1 M q2.1 q2.2 eq2) d_Ta_indexIn_20 tw_599 tw_596 tw_597 tw_598 tw_15 dd_Js_length ⟨Nat.le_of_ble_eq_true rfl, Nat.le_of_ble_eq_true rfl, Nat.le_of_ble_eq_true rfl, Nat.le_of_ble_eq_true rfl⟩ (Nat.le_of_ble_eq_true rfl) rfl rfl rfl rfl ?_
  refine zi_icmp_ge (tgt := 64) d_Ta_indexIn_23 rfl (fun c3 => ?_) (fun c3 => ?_)
  · rw [if_pos c3] at h
    refine zi_iconst (-1) d_Ta_indexIn_64 rfl ?_
    cases h
    exact zo_ret d_Ta_indexIn_65 (Nat.le_of_ble_eq_true rfl) (Nat.le_of_ble_eq_true rfl) rfl
  · rw [if_neg c3] at h
    refine zi_aload_n 1 d_Ta_indexIn_26 rfl ?_
    refine zi_iload 4 d_Ta_indexIn_27 rfl ?_
    obtain ⟨u4, eu4, h⟩ := zbind h
    obtain ⟨q5, eq5, h⟩ := zbind h
    refine zo_virtS 32 [.int x4] [] [.int q5.1] (zli_s eu4) (C_Js_charAt n E S i1 x4 q2.2 q5.1 q5.2 eq5) d_Ta_indexIn_29 tw_609 tw_606 tw_607 tw_608 tw_15 dd_Js_charAt ⟨Nat.le_of_ble_eq_true rfl, Nat.le_of_ble_eq_true rfl, Nat.le_of_ble_eq_true rfl, Nat.le_of_ble_eq_true rfl⟩ (Nat.le_of_ble_eq_true rfl) rfl rfl rfl rfl ?_
    refine zi_bipush 32 d_Ta_indexIn_32 rfl ?_
    refine zi_icmp_ne (tgt := 58) d_Ta_indexIn_34 rfl (fun c6 => ?_) (fun c6 => ?_)
    · rw [if_neg c6] at h
      refine zi_lo [(0, .ref a0), (1, .ref (eK E i1)), (2, .int x2), (3, .int x3), (4, .int x4)] [0, 1, 2, 3, 4] rfl ?_
      exact K_Ta_indexIn_b58 n E S r17 a0 i1 x2 x3 x4 q5.2 r M' hr17 h
    · rw [if_pos c6] at h
      refine zi_aload_n 0 d_Ta_indexIn_37 rfl ?_
      refine zi_aload_n 1 d_Ta_indexIn_38 rfl ?_
      refine zi_iload_n 3 d_Ta_indexIn_39 rfl ?_
      refine zi_iload 4 d_Ta_indexIn_40 rfl ?_
      obtain ⟨u7, eu7, h⟩ := zbind h
      obtain ⟨q8, eq8, h⟩ := zbind h
      refine zo_virt 45 [.ref (eK E i1), .int x3, .int x4] [] [.int (bI q8.1)] zkd_8 (zck_s eu7) (C_Ta_isSame n E S a0 i1 x3 x4 q5.2 q8.1 q8.2 eq8) d_Ta_indexIn_42 tw_647 tw_644 tw_646 ts_7 tw_5 dd_Ta_isSame ⟨Nat.le_of_ble_eq_true rfl, Nat.le_of_ble_eq_true rfl, Nat.le_of_ble_eq_true rfl, Nat.le_of_ble_eq_true rfl⟩ (Nat.le_of_ble_eq_true rfl) rfl rfl rfl rfl ?_
      refine zo_ifeqB d_Ta_indexIn_45 rfl 48 rfl (fun c9 => ?_) (fun c9 => ?_)
      · rw [if_neg c9] at h
        refine zi_iinc 2 (x2 + 1) [(2, .int (x2 + 1)), (0, .ref a0), (1, .ref (eK E i1)), (3, .int x3), (4, .int x4)] d_Ta_indexIn_50 rfl rfl (by decide) rfl ?_
        refine zi_iload 4 d_Ta_indexIn_53 rfl ?_
        refine zi_iconst 1 d_Ta_indexIn_55 rfl ?_
        refine zi_iadd d_Ta_indexIn_56 ?_
        refine zi_istore_n [(3, .int (x4 + 1)), (2, .int (x2 + 1)), (0, .ref a0), (1, .ref (eK E i1)), (4, .int x4)] d_Ta_indexIn_57 (by decide) rfl ?_
        refine zi_lo [(0, .ref a0), (1, .ref (eK E i1)), (2, .int (x2 + 1)), (3, .int (x4 + 1)), (4, .int x4)] [2, 3, 1, 0, 4] rfl ?_
        exact K_Ta_indexIn_b58 n E S r17 a0 i1 (x2 + 1) (x4 + 1) x4 q8.2 r M' hr17 h
      · rw [if_pos c9] at h
        refine zi_iload_n 2 d_Ta_indexIn_48 rfl ?_
        cases h
        exact zo_ret d_Ta_indexIn_49 (Nat.le_of_ble_eq_true rfl) (Nat.le_of_ble_eq_true rfl) rfl
theorem K_Ta_indexIn_b17 (n : Nat) (E : zE) (S : zS) (a0 : Nat) (i1 : Nat) (x2 : Int32) (x3 : Int32) (x4 : Int32) (M : zH) (r : Int32) (M' : zH)  (h : F_Ta_indexIn_b17 n E S (a0, i1, x2, x3, x4, M) = some (r, M')) : zG E Y_Ta_indexIn (some (.int r), S, M') 17 [(0, .ref a0), (1, .ref (eK E i1)), (2, .int x2), (3, .int x3), (4, .int x4)] [] S M 0 0 := by
  have key : ∀ (k : Nat) (a0 : Nat) (i1 : Nat) (x2 : Int32) (x3 : Int32) (x4 : Int32) (M : zH), zfix (fun r17 s => F_Ta_indexIn_L17 n E S r17 s.1 s.2.1 s.2.2.1 s.2.2.2.1 s.2.2.2.2.1 s.2.2.2.2.2) k (a0, i1, x2, x3, x4, M) = some (r, M') → zG E Y_Ta_indexIn (some (.int r), S, M') 17 [(0, .ref a0), (1, .ref (eK E i1)), (2, .int x2), (3, .int x3), (4, .int x4)] [] S M 0 0 := by
    intro k
    induction k with
    | zero => intro a0 i1 x2 x3 x4 M h; cases h
    | succ k ih => intro a0 i1 x2 x3 x4 M h; exact K_Ta_indexIn_L17 n E S _ a0 i1 x2 x3 x4 M r M'  (fun a0 i1 x2 x3 x4 M h => ih a0 i1 x2 x3 x4 M h) h
  exact key n a0 i1 x2 x3 x4 M h
theorem K_Ta_indexIn (n : Nat) (E : zE) (S : zS) (a0 : Nat) (i1 : Nat) (M : zH) (r : Int32) (M' : zH)  (h : F_Ta_indexIn n E S a0 i1 M = some (r, M')) : zG E Y_Ta_indexIn (some (.int r), S, M') 0 [(0, .ref a0), (1, .ref (eK E i1))] [] S M 0 0 := by
  unfold F_Ta_indexIn at h
  refine zi_aload_n 0 d_Ta_indexIn_0 rfl ?_
  obtain ⟨v10, ev10, h⟩ := zbind h
  refine zo_getI 4 zkd_8 2 d_Ta_indexIn_1 ev10 rfl tw_155 rfl ?_
  refine zi_iconst 1 d_Ta_indexIn_4 rfl ?_
  refine zi_icmp_eq (tgt := 10) d_Ta_indexIn_5 rfl (fun c11 => ?_) (fun c11 => ?_)
  · rw [if_pos c11] at h
    refine zi_iconst 0 d_Ta_indexIn_10 rfl ?_
    refine zi_istore_n [(2, .int 0), (0, .ref a0), (1, .ref (eK E i1))] d_Ta_indexIn_11 (by decide) rfl ?_
    refine zi_iconst 0 d_Ta_indexIn_12 rfl ?_
    refine zi_istore_n [(3, .int 0), (2, .int 0), (0, .ref a0), (1, .ref (eK E i1))] d_Ta_indexIn_13 (by decide) rfl ?_
    refine zi_iconst 0 d_Ta_indexIn_14 rfl ?_
    refine zi_istore [(4, .int 0), (3, .int 0), (2, .int 0), (0, .ref a0), (1, .ref (eK E i1))] d_Ta_indexIn_15 (by decide) rfl ?_
    refine zi_lo [(0, .ref a0), (1, .ref (eK E i1)), (2, .int 0), (3, .int 0), (4, .int 0)] [3, 4, 2, 1, 0] rfl ?_
    exact K_Ta_indexIn_b17 n E S a0 i1 0 0 0 M r M'  h
  · rw [if_neg c11] at h
    refine zi_iconst (-1) d_Ta_indexIn_8 rfl ?_
    cases h
    exact zo_ret d_Ta_indexIn_9 (Nat.le_of_ble_eq_true rfl) (Nat.le_of_ble_eq_true rfl) rfl
theorem C_Ta_indexIn (n : Nat) (E : zE) (S : zS) (a0 : Nat) (i1 : Nat) (M : zH) (r : Int32) (M' : zH) (h : F_Ta_indexIn n E S a0 i1 M = some (r, M')) : zC E Y_Ta_indexIn [.ref a0, .ref (eK E i1)] S M (some (.int r), S, M') :=
  zC.of (Or.inl (show plainName "NightColander$Tape" = true by decide)) (Nat.le_of_ble_eq_true rfl) (trivial) (K_Ta_indexIn n E S a0 i1 M r M' h)
def Y_Ni_turnAll : zY := (⟨"NightColander$Night","turnAll","(I)V"⟩, prog_5_method_15_code, 3, none, 2, 0, 0)
theorem dd_Ni_turnAll : (⟨"NightColander$Night","turnAll","(I)V"⟩ : MethodName).cls = "NightColander$Night" ∧ (⟨"NightColander$Night","turnAll","(I)V"⟩ : MethodName).cls ≠ "java/lang/invoke/MethodHandle" ∧ (⟨"NightColander$Night","turnAll","(I)V"⟩ : MethodName).cls ≠ "java/lang/invoke/VarHandle" ∧ (parseMethodDescriptor (⟨"NightColander$Night","turnAll","(I)V"⟩ : MethodName).desc).map (fun d => d.parameters.length) = some 1 := by decide +kernel
theorem d_Ni_turnAll_0 : decode (yB Y_Ni_turnAll) 0 = .ok (.iconst 0, 1) := by decide +kernel
theorem d_Ni_turnAll_1 : decode (yB Y_Ni_turnAll) 1 = .ok (.istore_n 2, 1) := by decide +kernel
theorem d_Ni_turnAll_2 : decode (yB Y_Ni_turnAll) 2 = .ok (.iload_n 2, 1) := by decide +kernel
theorem d_Ni_turnAll_3 : decode (yB Y_Ni_turnAll) 3 = .ok (.iconst 4, 1) := by decide +kernel
theorem d_Ni_turnAll_4 : decode (yB Y_Ni_turnAll) 4 = .ok (.if_icmp .ge 32, 3) := by decide +kernel
theorem d_Ni_turnAll_7 : decode (yB Y_Ni_turnAll) 7 = .ok (.aload_n 0, 1) := by decide +kernel
theorem d_Ni_turnAll_8 : decode (yB Y_Ni_turnAll) 8 = .ok (.getfield 19, 3) := by decide +kernel
theorem d_Ni_turnAll_11 : decode (yB Y_Ni_turnAll) 11 = .ok (.iload_n 2, 1) := by decide +kernel
theorem d_Ni_turnAll_12 : decode (yB Y_Ni_turnAll) 12 = .ok (.aload_n 0, 1) := by decide +kernel
theorem d_Ni_turnAll_13 : decode (yB Y_Ni_turnAll) 13 = .ok (.getfield 19, 3) := by decide +kernel
theorem d_Ni_turnAll_16 : decode (yB Y_Ni_turnAll) 16 = .ok (.iload_n 2, 1) := by decide +kernel
theorem d_Ni_turnAll_17 : decode (yB Y_Ni_turnAll) 17 = .ok (.iaload, 1) := by decide +kernel
theorem d_Ni_turnAll_18 : decode (yB Y_Ni_turnAll) 18 = .ok (.iload_n 1, 1) := by decide +kernel
theorem d_Ni_turnAll_19 : decode (yB Y_Ni_turnAll) 19 = .ok (.iload_n 2, 1) := by decide +kernel
theorem d_Ni_turnAll_20 : decode (yB Y_Ni_turnAll) 20 = .ok (.iconst 1, 1) := by decide +kernel
theorem d_Ni_turnAll_21 : decode (yB Y_Ni_turnAll) 21 = .ok (.iadd, 1) := by decide +kernel
theorem d_Ni_turnAll_22 : decode (yB Y_Ni_turnAll) 22 = .ok (.imul, 1) := by decide +kernel
theorem d_Ni_turnAll_23 : decode (yB Y_Ni_turnAll) 23 = .ok (.iadd, 1) := by decide +kernel
theorem d_Ni_turnAll_24 : decode (yB Y_Ni_turnAll) 24 = .ok (.bipush 8, 2) := by decide +kernel
theorem d_Ni_turnAll_26 : decode (yB Y_Ni_turnAll) 26 = .ok (.invokestatic 78, 3) := by decide +kernel
theorem d_Ni_turnAll_29 : decode (yB Y_Ni_turnAll) 29 = .ok (.iastore, 1) := by decide +kernel
theorem d_Ni_turnAll_30 : decode (yB Y_Ni_turnAll) 30 = .ok (.iinc 2 1, 3) := by decide +kernel
theorem d_Ni_turnAll_33 : decode (yB Y_Ni_turnAll) 33 = .ok (.goto (-31), 3) := by decide +kernel
theorem d_Ni_turnAll_36 : decode (yB Y_Ni_turnAll) 36 = .ok (.aload_n 0, 1) := by decide +kernel
theorem d_Ni_turnAll_37 : decode (yB Y_Ni_turnAll) 37 = .ok (.getfield 40, 3) := by decide +kernel
theorem d_Ni_turnAll_40 : decode (yB Y_Ni_turnAll) 40 = .ok (.iconst 0, 1) := by decide +kernel
theorem d_Ni_turnAll_41 : decode (yB Y_Ni_turnAll) 41 = .ok (.dup2, 1) := by decide +kernel
theorem d_Ni_turnAll_42 : decode (yB Y_Ni_turnAll) 42 = .ok (.iaload, 1) := by decide +kernel
theorem d_Ni_turnAll_43 : decode (yB Y_Ni_turnAll) 43 = .ok (.iload_n 1, 1) := by decide +kernel
theorem d_Ni_turnAll_44 : decode (yB Y_Ni_turnAll) 44 = .ok (.iadd, 1) := by decide +kernel
theorem d_Ni_turnAll_45 : decode (yB Y_Ni_turnAll) 45 = .ok (.iastore, 1) := by decide +kernel
theorem d_Ni_turnAll_46 : decode (yB Y_Ni_turnAll) 46 = .ok (.return_, 1) := by decide +kernel
def F_Ni_turnAll_L2 (n : Nat) (E : zE) (S : zS) (r2 : Nat × Int32 × Int32 × zH → Option (zH)) (a0 : Nat) (x1 : Int32) (x2 : Int32) (M : zH) : Option (zH) :=
  if 4 ≤ x2 then
    (zgR S a0 3 9).bind fun b2 =>
    (zldI S M b2 0).bind fun v3 =>
    (zstI S M b2 0 (v3 + x1)).bind fun m4 =>
    some (m4)
  else
    (zgR S a0 3 2).bind fun b5 =>
    (zldI S M b5 x2).bind fun v6 =>
    (F_Jm_floorMod n E S (v6 + (x1 * (x2 + 1))) 8 M).bind fun q7 =>
    (zstI S q7.2 b5 x2 q7.1).bind fun m8 =>
    r2 (a0, x1, x2 + 1, m8)
def F_Ni_turnAll_b2 (n : Nat) (E : zE) (S : zS) : Nat × Int32 × Int32 × zH → Option (zH) := zfix (fun r2 s => F_Ni_turnAll_L2 n E S r2 s.1 s.2.1 s.2.2.1 s.2.2.2) n
def F_Ni_turnAll (n : Nat) (E : zE) (S : zS) (a0 : Nat) (x1 : Int32) (M : zH) : Option (zH) :=
  F_Ni_turnAll_b2 n E S (a0, x1, 0, M)
theorem K_Ni_turnAll_L2 (n : Nat) (E : zE) (S : zS) (r2 : Nat × Int32 × Int32 × zH → Option (zH)) (a0 : Nat) (x1 : Int32) (x2 : Int32) (M : zH) (M' : zH) (hr2 : ∀ (a0 : Nat) (x1 : Int32) (x2 : Int32) (M : zH), r2 (a0, x1, x2, M) = some M' → zG E Y_Ni_turnAll (none, S, M') 2 [(0, .ref a0), (1, .int x1), (2, .int x2)] [] S M 0 0) (h : F_Ni_turnAll_L2 n E S r2 a0 x1 x2 M = some M') : zG E Y_Ni_turnAll (none, S, M') 2 [(0, .ref a0), (1, .int x1), (2, .int x2)] [] S M 0 0 := by
  unfold F_Ni_turnAll_L2 at h
  refine zi_iload_n 2 d_Ni_turnAll_2 rfl ?_
  refine zi_iconst 4 d_Ni_turnAll_3 rfl ?_
  refine zi_icmp_ge (tgt := 36) d_Ni_turnAll_4 rfl (fun c1 => ?_) (fun c1 => ?_)
  · rw [if_pos c1] at h
    refine zi_aload_n 0 d_Ni_turnAll_36 rfl ?_
    obtain ⟨b2, eb2, h⟩ := zbind h
    refine zo_getR 40 zkd_3 9 d_Ni_turnAll_37 eb2 rfl tw_80 rfl ?_
    refine zi_iconst 0 d_Ni_turnAll_40 rfl ?_
    refine zi_dup2 d_Ni_turnAll_41 rfl rfl ?_
    obtain ⟨v3, ev3, h⟩ := zbind h
    refine zo_iald 43 d_Ni_turnAll_42 ev3 rfl ?_
    refine zi_iload_n 1 d_Ni_turnAll_43 rfl ?_
    refine zi_iadd d_Ni_turnAll_44 ?_
    obtain ⟨m4, em4, h⟩ := zbind h
    refine zo_iast 46 d_Ni_turnAll_45 em4 rfl ?_
    cases h
    exact zo_ret d_Ni_turnAll_46 (Nat.le_of_ble_eq_true rfl) (Nat.le_of_ble_eq_true rfl) rfl
  · rw [if_neg c1] at h
    refine zi_aload_n 0 d_Ni_turnAll_7 rfl ?_
    obtain ⟨b5, eb5, h⟩ := zbind h
    refine zo_getR 11 zkd_3 2 d_Ni_turnAll_8 eb5 rfl tw_52 rfl ?_
    refine zi_iload_n 2 d_Ni_turnAll_11 rfl ?_
    refine zi_aload_n 0 d_Ni_turnAll_12 rfl ?_
    refine zo_getR 16 zkd_3 2 d_Ni_turnAll_13 eb5 rfl tw_52 rfl ?_
    refine zi_iload_n 2 d_Ni_turnAll_16 rfl ?_
    obtain ⟨v6, ev6, h⟩ := zbind h
    refine zo_iald 18 d_Ni_turnAll_17 ev6 rfl ?_
    refine zi_iload_n 1 d_Ni_turnAll_18 rfl ?_
    refine zi_iload_n 2 d_Ni_turnAll_19 rfl ?_
    refine zi_iconst 1 d_Ni_turnAll_20 rfl ?_
    refine zi_iadd d_Ni_turnAll_21 ?_
    refine zi_imul d_Ni_turnAll_22 ?_
    refine zi_iadd d_Ni_turnAll_23 ?_
    refine zi_bipush 8 d_Ni_turnAll_24 rfl ?_
    obtain ⟨q7, eq7, h⟩ := zbind h
    refine zo_stat 29 [.int (v6 + (x1 * (x2 + 1))), .int 8] [.int x2, .ref b5] [.int q7.1, .int x2, .ref b5] (C_Jm_floorMod n E S (v6 + (x1 * (x2 + 1))) 8 M q7.1 q7.2 eq7) d_Ni_turnAll_26 tw_409 tw_407 tw_408 tw_14 dd_Jm_floorMod ⟨Nat.le_of_ble_eq_true rfl, Nat.le_of_ble_eq_true rfl, Nat.le_of_ble_eq_true rfl, Nat.le_of_ble_eq_true rfl⟩ (Nat.le_of_ble_eq_true rfl) rfl rfl rfl rfl ?_
    obtain ⟨m8, em8, h⟩ := zbind h
    refine zo_iast 30 d_Ni_turnAll_29 em8 rfl ?_
    refine zi_iinc 2 (x2 + 1) [(2, .int (x2 + 1)), (0, .ref a0), (1, .int x1)] d_Ni_turnAll_30 rfl rfl (by decide) rfl ?_
    refine zi_goto (tgt := 2) d_Ni_turnAll_33 rfl ?_
    refine zi_lo [(0, .ref a0), (1, .int x1), (2, .int (x2 + 1))] [1, 2, 0] rfl ?_
    exact hr2 a0 x1 (x2 + 1) m8 h
theorem K_Ni_turnAll_b2 (n : Nat) (E : zE) (S : zS) (a0 : Nat) (x1 : Int32) (x2 : Int32) (M : zH) (M' : zH)  (h : F_Ni_turnAll_b2 n E S (a0, x1, x2, M) = some M') : zG E Y_Ni_turnAll (none, S, M') 2 [(0, .ref a0), (1, .int x1), (2, .int x2)] [] S M 0 0 := by
  have key : ∀ (k : Nat) (a0 : Nat) (x1 : Int32) (x2 : Int32) (M : zH), zfix (fun r2 s => F_Ni_turnAll_L2 n E S r2 s.1 s.2.1 s.2.2.1 s.2.2.2) k (a0, x1, x2, M) = some M' → zG E Y_Ni_turnAll (none, S, M') 2 [(0, .ref a0), (1, .int x1), (2, .int x2)] [] S M 0 0 := by
    intro k
    induction k with
    | zero => intro a0 x1 x2 M h; cases h
    | succ k ih => intro a0 x1 x2 M h; exact K_Ni_turnAll_L2 n E S _ a0 x1 x2 M M'  (fun a0 x1 x2 M h => ih a0 x1 x2 M h) h
  exact key n a0 x1 x2 M h
theorem K_Ni_turnAll (n : Nat) (E : zE) (S : zS) (a0 : Nat) (x1 : Int32) (M : zH) (M' : zH)  (h : F_Ni_turnAll n E S a0 x1 M = some M') : zG E Y_Ni_turnAll (none, S, M') 0 [(0, .ref a0), (1, .int x1)] [] S M 0 0 := by
  unfold F_Ni_turnAll at h
  refine zi_iconst 0 d_Ni_turnAll_0 rfl ?_
  refine zi_istore_n [(2, .int 0), (0, .ref a0), (1, .int x1)] d_Ni_turnAll_1 (by decide) rfl ?_
  refine zi_lo [(0, .ref a0), (1, .int x1), (2, .int 0)] [1, 2, 0] rfl ?_
  exact K_Ni_turnAll_b2 n E S a0 x1 0 M M'  h
theorem C_Ni_turnAll (n : Nat) (E : zE) (S : zS) (a0 : Nat) (x1 : Int32) (M : zH) (M' : zH) (h : F_Ni_turnAll n E S a0 x1 M = some M') : zC E Y_Ni_turnAll [.ref a0, .int x1] S M (none, S, M') :=
  zC.of (Or.inl (show plainName "NightColander$Night" = true by decide)) (Nat.le_of_ble_eq_true rfl) (trivial) (K_Ni_turnAll n E S a0 x1 M M' h)
