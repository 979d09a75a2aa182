/-! more primitives: calls by their answers, returns, arraycopy, statics -/
theorem zbl_s {x : Int32} {b : Bool} (h : zbl x = some b) : x = bI b := by
  unfold zbl at h
  split at h
  · cases h; simp_all [bI]
  · split at h
    · cases h; simp_all [bI]
    · cases h
theorem bI_nar (b : Bool) : narrow .boolean (.int (bI b)) = .int (bI b) := by cases b <;> rfl
section
variable {E : zE} {Y : zY} {t : zTau} {pc : Nat} {lo : List (Nat × Value)} {sk : List Value} {S : zS} {M : zH} {k n : Nat} {a i : Nat}
theorem zo_ret {v : Option Value} {st : List Value} (hd : decode (yB Y) pc = .ok (zri (yR Y), 1)) (h1 : k ≤ yC Y) (h2 : n ≤ yS Y) (hs : st = v.toList) : zG E Y (v, S, M) pc lo st S M k n := by
  subst hs; exact zi_ret hd h1 h2
theorem zo_retB {x : Int32} {b : Bool} (hd : decode (yB Y) pc = .ok (zri (yR Y), 1)) (h1 : k ≤ yC Y) (h2 : n ≤ yS Y) (hs : x = bI b) : zG E Y (some (.int (bI b)), S, M) pc lo [.int x] S M k n := by
  subst hs; exact zi_ret hd h1 h2
theorem zo_virt {Y' : zY} {c N : Nat} {C : String} {T : u_T} {ty : Nat → FieldType} {b : Nat} (q : Nat) (As : List Value) (sk st : List Value) {v : Option Value} {S' : zS} {M' : zH} {k' n' : Nat} (hK : zKd c C T N ty) (hk : sK S b = c) (hC : zC E Y' (.ref b :: As) S M (v, S', M')) (hd : decode (yB Y) pc = .ok (.invokevirtual i, 3)) (hw0 : Cond.code (yN Y') (yB Y') (yL Y') (yR Y') ∈ zTB) (hw1 : Cond.methodLink (yN Y).cls i (yN Y') ∈ zTB) (hw2 : Cond.instanceMethod (yN Y') ∈ zTB) (hw3 : Cond.selects C (yN Y') (yN Y') ∈ zTB) (hw4 : Cond.initialized C ∈ zTB)
    (hdd : (yN Y').cls = C ∧ (yN Y').cls ≠ "java/lang/invoke/MethodHandle" ∧ (yN Y').cls ≠ "java/lang/invoke/VarHandle" ∧ (parseMethodDescriptor (yN Y').desc).map (fun d => d.parameters.length) = some As.length) (hfit : zFit Y Y' k n) (hrest : (sk.map fun v => v.category).sum ≤ 8) (hq : pc + 3 = q) (hst : v.toList ++ sk = st) (hk' : k + yC Y' = k') (hn' : n + yS Y' = n')
    (kk : zG E Y t q lo st S' M' k' n') : zG E Y t pc lo (As.reverse ++ .ref b :: sk) S M k n := by
  subst hq; subst hst; subst hk'; subst hn'
  exact zi_virt As hK hC hd hk hw0 hw1 hw2 hw3 hw4 hdd hfit hrest kk
theorem zo_stat {Y' : zY} (q : Nat) (As : List Value) (sk st : List Value) {v : Option Value} {S' : zS} {M' : zH} {k' n' : Nat} (hC : zC E Y' As S M (v, S', M')) (hd : decode (yB Y) pc = .ok (.invokestatic i, 3)) (hw0 : Cond.code (yN Y') (yB Y') (yL Y') (yR Y') ∈ zTB) (hw1 : Cond.methodLink (yN Y).cls i (yN Y') ∈ zTB) (hw2 : Cond.static (yN Y') ∈ zTB) (hw4 : Cond.initialized (yN Y').cls ∈ zTB)
    (hdd : (yN Y').cls ≠ "java/lang/invoke/MethodHandle" ∧ (yN Y').cls ≠ "java/lang/invoke/VarHandle" ∧ (parseMethodDescriptor (yN Y').desc).map (fun d => d.parameters.length) = some As.length) (hfit : zFit Y Y' k n) (hrest : (sk.map fun v => v.category).sum ≤ 8) (hq : pc + 3 = q) (hst : v.toList ++ sk = st) (hk' : k + yC Y' = k') (hn' : n + yS Y' = n')
    (kk : zG E Y t q lo st S' M' k' n') : zG E Y t pc lo (As.reverse ++ sk) S M k n := by
  subst hq; subst hst; subst hk'; subst hn'
  exact zi_stat As hC hd hw0 hw1 hw2 hw4 hdd hfit hrest kk
theorem zo_statN {Y' : zY} {host : String} (q : Nat) (As : List Value) (sk st : List Value) {v : Option Value} {S' : zS} {M' : zH} {k' n' : Nat} (hC : zC E Y' As S M (v, S', M')) (hd : decode (yB Y) pc = .ok (.invokestatic i, 3)) (hw0 : Cond.code (yN Y') (yB Y') (yL Y') (yR Y') ∈ zTB) (hw1 : Cond.methodLinkNest (yN Y).cls i (yN Y') host ∈ zNest) (hw2 : Cond.static (yN Y') ∈ zTB) (hw4 : Cond.initialized (yN Y').cls ∈ zTB)
    (hdd : (yN Y').cls ≠ "java/lang/invoke/MethodHandle" ∧ (yN Y').cls ≠ "java/lang/invoke/VarHandle" ∧ (parseMethodDescriptor (yN Y').desc).map (fun d => d.parameters.length) = some As.length) (hfit : zFit Y Y' k n) (hrest : (sk.map fun v => v.category).sum ≤ 8) (hq : pc + 3 = q) (hst : v.toList ++ sk = st) (hk' : k + yC Y' = k') (hn' : n + yS Y' = n')
    (kk : zG E Y t q lo st S' M' k' n') : zG E Y t pc lo (As.reverse ++ sk) S M k n := by
  subst hq; subst hst; subst hk'; subst hn'
  exact zi_statN As hC hd hw0 hw1 hw2 hw4 hdd hfit hrest kk
theorem zo_init {Y' : zY} {b : Nat} (q : Nat) (As : List Value) (sk : List Value) {S' : zS} {M' : zH} {k' n' : Nat} (hC : zC E Y' (.ref b :: As) S M (none, S', M')) (hd : decode (yB Y) pc = .ok (.invokespecial i, 3)) (hrt : yR Y' = none) (hnm : (yN Y').name = "<init>") (hw0 : Cond.code (yN Y') (yB Y') (yL Y') (yR Y') ∈ zTB) (hw1 : Cond.methodLink (yN Y).cls i (yN Y') ∈ zTB) (hw2 : Cond.instanceMethod (yN Y') ∈ zTB) (hw4 : Cond.initialized (yN Y').cls ∈ zTB)
    (hdd : (yN Y').cls ≠ "java/lang/invoke/MethodHandle" ∧ (yN Y').cls ≠ "java/lang/invoke/VarHandle" ∧ (parseMethodDescriptor (yN Y').desc).map (fun d => d.parameters.length) = some As.length) (hfit : zFit Y Y' k n) (hrest : (sk.map fun v => v.category).sum ≤ 8) (hq : pc + 3 = q) (hk' : k + yC Y' = k') (hn' : n + yS Y' = n')
    (kk : zG E Y t q lo sk S' M' k' n') : zG E Y t pc lo (As.reverse ++ .ref b :: sk) S M k n := by
  subst hq; subst hk'; subst hn'
  exact zi_init As hC hd hrt hnm hw0 hw1 hw2 hw4 hdd hfit hrest kk
theorem zo_initN {Y' : zY} {b : Nat} {host : String} (q : Nat) (As : List Value) (sk : List Value) {S' : zS} {M' : zH} {k' n' : Nat} (hC : zC E Y' (.ref b :: As) S M (none, S', M')) (hd : decode (yB Y) pc = .ok (.invokespecial i, 3)) (hrt : yR Y' = none) (hnm : (yN Y').name = "<init>") (hw0 : Cond.code (yN Y') (yB Y') (yL Y') (yR Y') ∈ zTB) (hw1 : Cond.methodLinkNest (yN Y).cls i (yN Y') host ∈ zNest) (hw2 : Cond.instanceMethod (yN Y') ∈ zTB) (hw4 : Cond.initialized (yN Y').cls ∈ zTB)
    (hdd : (yN Y').cls ≠ "java/lang/invoke/MethodHandle" ∧ (yN Y').cls ≠ "java/lang/invoke/VarHandle" ∧ (parseMethodDescriptor (yN Y').desc).map (fun d => d.parameters.length) = some As.length) (hfit : zFit Y Y' k n) (hrest : (sk.map fun v => v.category).sum ≤ 8) (hq : pc + 3 = q) (hk' : k + yC Y' = k') (hn' : n + yS Y' = n')
    (kk : zG E Y t q lo sk S' M' k' n') : zG E Y t pc lo (As.reverse ++ .ref b :: sk) S M k n := by
  subst hq; subst hk'; subst hn'
  exact zi_initN As hC hd hrt hnm hw0 hw1 hw2 hw4 hdd hfit hrest kk
/-- a static that was there before -/
theorem zo_gets {C nm d : String} {v : Value} (q : Nat) (hd : decode (yB Y) pc = .ok (.getstatic i, 3)) (hm : (C, nm, d, v) ∈ eRZ E) (hw : Cond.fieldLink (yN Y).cls i C nm d ∈ zTB) (hq : pc + 3 = q) (kk : zG E Y t q lo (v :: sk) S M k n) : zG E Y t pc lo sk S M k n := by
  subst hq
  intro p l e R s m args below meth c0 Q H locs ls X hR hret hP hS hl
  exact va_gets X.1.1 X.1.2.1 (X.2.2.2.2.2.1.1 _ hm) hS X.1.2.2.2.1 (X.ts hw) (fun _ h => h) hd (kk p l e R s m args below meth c0 Q H locs ls X hR hret hP hS hl)
/-- a number of an array of ints that was there before -/
theorem zo_tald {ad N : Nat} {f : Nat → Int32} {j : Int32} (q : Nat) (hd : decode (yB Y) pc = .ok (.iaload, 1)) (hm : (.int, ad, N, fun j => .int (f j)) ∈ eRT E) (hin : ¬ (j < 0 ∨ N ≤ j.toNatClampNeg)) (hq : pc + 1 = q) (kk : zG E Y t q lo (.int (f j.toNatClampNeg) :: sk) S M k n) : zG E Y t pc lo (.int j :: .ref ad :: sk) S M k n := by
  subst hq
  intro p l e R s m args below meth c0 Q H locs ls X hR hret hP hS hl
  exact va_ti X.1.1 X.1.2.1 (X.2.2.2.2.2.1.2.1 _ hm) hS hin rfl hd (kk p l e R s m args below meth c0 Q H locs ls X hR hret hP hS hl)
theorem zo_sta {ix : Nat} {j x : Int32} (q : Nat) (hd : decode (yB Y) pc = .ok (.iaload, 1)) (hx : ix < 3) (e : zsta ix j = some x) (hq : pc + 1 = q) (kk : zG E Y t q lo (.int x :: sk) S M k n) : zG E Y t pc lo (.int j :: .ref (eU E ix) :: sk) S M k n := by
  unfold zsta at e
  split at e
  · rename_i h
    cases e
    exact zo_tald (f := fun j => (zSta ix).getD j 0) (N := (zSta ix).length) q hd (List.mem_cons_of_mem _ (List.mem_append_left _ (List.mem_map.mpr ⟨ix, List.mem_range.mpr hx, rfl⟩))) h hq kk
  · cases e
theorem zo_scr {j x : Int32} (q : Nat) (hd : decode (yB Y) pc = .ok (.iaload, 1)) (e : zscr E j = some x) (hq : pc + 1 = q) (kk : zG E Y t q lo (.int x :: sk) S M k n) : zG E Y t pc lo (.int j :: .ref (eb E) :: sk) S M k n := by
  unfold zscr at e
  split at e
  · rename_i h
    cases e
    exact zo_tald (f := eX E) (N := eL E) q hd List.mem_cons_self h hq kk
  · cases e
end
