/-! arraycopy, clone, texts that are constants, and what a new cell is as a primitive -/
def zck (S : zS) (a c : Nat) : Option Unit := if sK S a = c then some () else none
theorem zck_s {S : zS} {a c : Nat} {u : Unit} (h : zck S a c = some u) : sK S a = c := by unfold zck at h; split at h <;> simp_all
def zcpy (S : zS) (M : zH) (a : Nat) (sp : Int32) (b : Nat) (dp n : Int32) : Option zH :=
  if sK S a = 12 ∧ sK S b = 12 ∧ ¬ sp < 0 ∧ ¬ dp < 0 ∧ ¬ n < 0 ∧ sp.toNatClampNeg + n.toNatClampNeg ≤ sN S a ∧ dp.toNatClampNeg + n.toNatClampNeg ≤ sN S b then
    some (fun q j => if q = b then va_cpy (mI M a) (mI M b) sp.toNatClampNeg dp.toNatClampNeg n.toNatClampNeg j else mI M q j, mJ M, mR M) else none
/-- a new object, a new array of at most mx -/
def zmkO (S : zS) (M : zH) (c : Nat) : Option (Nat × zS × zH) := some (sZ S, zNew S c 0, mNew M (sZ S))
def zmkA (S : zS) (M : zH) (c : Nat) (x : Int32) (mx : Nat) : Option (Nat × zS × zH) := if ¬ x < 0 ∧ x.toNatClampNeg ≤ mx then some (sZ S, zNew S c x.toNatClampNeg, mNew M (sZ S)) else none
/-- a copy of an array of ints of at most mx -/
def zcln (S : zS) (M : zH) (a mx : Nat) : Option (Nat × zS × zH) := if sK S a = 12 ∧ sN S a ≤ mx then some (sZ S, zNew S 12 (sN S a), (fun b j => if b = sZ S then mI M a j else mI M b j, fun b j => if b = sZ S then 0 else mJ M b j, fun b j => if b = sZ S then none else mR M b j)) else none
/-- a byte of a literal -/
def zlb (i : Nat) (x : Int32) : Option Int32 := if i < 14 ∧ ¬ (x < 0 ∨ (zLit i).length ≤ x.toNatClampNeg) then some ((zLit i).getD x.toNatClampNeg 0) else none
def zln (i : Nat) : Option Int32 := if i < 14 then some (nI (zLit i).length) else none
def zli (i : Nat) : Option Unit := if i < 14 then some () else none
theorem zli_s {i : Nat} {u : Unit} (h : zli i = some u) : i < 14 := by unfold zli at h; split at h <;> simp_all
section
variable {E : zE} {Y : zY} {t : zTau} {pc : Nat} {lo : List (Nat × Value)} {sk : List Value} {S : zS} {M : zH} {k n : Nat} {a i : Nat} {j : Int32}
set_option maxHeartbeats 2000000 in
theorem zo_cpy {b : Nat} {sp dp x : Int32} {M' : zH} (q : Nat) (hd : decode (yB Y) pc = .ok (.invokestatic i, 3)) (e : zcpy S M a sp b dp x = some M') (hw1 : Cond.methodLink (yN Y).cls i arraycopyName ∈ zTB) (hw2 : Cond.native arraycopyName ∈ zTB ∧ Cond.static arraycopyName ∈ zTB ∧ Cond.initialized "java/lang/System" ∈ zTB) (hq : pc + 3 = q) (h1 : 1 ≤ yH Y) (h2 : (sk.map fun v => v.category).sum ≤ 8) (kk : zG E Y t q lo sk S M' k n) : zG E Y t pc lo (.int x :: .int dp :: .ref b :: .int sp :: .ref a :: sk) S M k n := by
  subst hq
  unfold zcpy at e
  split at e
  case isFalse => cases e
  case isTrue hc =>
  cases e
  obtain ⟨hka, hkb, hsp, hdp, hx, h4, h5⟩ := hc
  intro p l e R s m args below meth c Q H locs ls X hR hret hP hS hl
  have haa := hP.at (hP.2.2.2 a (by rw [hka]; omega))
  have hbL := hP.2.2.2 b (by rw [hkb]; omega)
  have hbb := hP.at hbL
  rw [zenc_ai hka (by omega) (by omega)] at haa
  rw [zenc_ai hkb (by omega) (by omega)] at hbb
  have hK := X.2.2.2.2.1.1
  have nn : ∀ z : Int32, ¬ z < 0 → z.toInt = (z.toNatClampNeg : Int) := by
    intro z hz
    have hz0 : (0 : Int) ≤ z.toInt := by
      have := Int32.not_lt.mp hz
      simpa using Int32.le_iff_toInt_le.mp this
    show z.toInt = ((z.toInt.toNat : Nat) : Int)
    omega
  intro T hT XX
  have hc0 : H[a]? = some (vp_cell (eY E 12) (sN S a, .inl (mI M a))) := haa
  have hc1 : H[b]? = some (vp_cell (eY E 12) (sN S b, .inl (mI M b))) := hbb
  obtain ⟨-, k0, hk0, cm0, hkk0⟩ := (hK.2 0 (eY E 12, .int) rfl).1 (sN S a) (fun j => .int (mI M a j))
  obtain ⟨-, k1, hk1, cm1, hkk1⟩ := (hK.2 0 (eY E 12, .int) rfl).1 (sN S b) (fun j => .int (mI M b j))
  obtain ⟨vm', X', step⟩ := XX.arraycopy X.1.1 X.1.2.2.2.1 (X.ts hw1) (X.ts hw2.1) (X.ts hw2.2.1) (X.ts hw2.2.2) (src := a) (dst := b) (cs := vp_cell (eY E 12) (sN S a, .inl (mI M a))) (cd := vp_cell (eY E 12) (sN S b, .inl (mI M b))) (srcPos := sp) (destPos := dp) (n := x) (by rw [hT]; exact hc0) (by rw [hT]; exact hc1)
    (fun _ h => by cases h) (fun _ h => by cases h) (fun h => by cases h) (fun h => by cases h) hk0 hk1 hkk0 hkk1 (by simp [refKind]) hsp hdp hx
    (by rw [nn sp hsp, nn x hx]; show ¬ _ > ((arrV (eY E 12) (sN S a) (fun j => .int (mI M a j))).slots.size : Int); rw [arrV_size]; omega)
    (by rw [nn dp hdp, nn x hx]; show ¬ _ > ((arrV (eY E 12) (sN S b) (fun j => .int (mI M b j))).slots.size : Int); rw [arrV_size]; omega)
    (fun vm₁ _ i hi => by
      have e : (vp_cell (eY E 12) (sN S a, .inl (mI M a))).slots.getD (sp.toNatClampNeg + i) .null = .int (mI M a (sp.toNatClampNeg + i)) := by
        show (arrV (eY E 12) (sN S a) (fun j => .int (mI M a j))).slots.getD _ _ = _
        rw [Array.getD_eq_getD_getElem?, arrV_read _ _ (by omega)]
        rfl
      refine ⟨?_, ?_⟩
      · rw [e]
        rfl
      · rw [e]
        exact trivial)
    (g := F0 m pc ls (.int x :: .int dp :: .ref b :: .int sp :: .ref a :: sk)) rfl (by rw [X.1.2.2.1]; exact hl.1) (rest := sk) rfl (by rw [X.1.2.1]; exact hd) (Nat.le_trans h1 hR.1) (by
      have h3 := hR.2.1
      have h6 : nativeFrameWords "java/lang/System" "arraycopy" 5 = 5 ∨ nativeFrameWords "java/lang/System" "arraycopy" 5 ≤ 20 := Or.inr (by decide)
      show 2 * 0 + _ + _ ≤ _
      rcases h6 with h6 | h6 <;> omega)
  have e1 : copied (vp_cell (eY E 12) (sN S a, .inl (mI M a))) (vp_cell (eY E 12) (sN S b, .inl (mI M b))) sp dp x = vp_cell (eY E 12) (sN S b, .inl (va_cpy (mI M a) (mI M b) sp.toNatClampNeg dp.toNatClampNeg x.toNatClampNeg)) := va_copied (fun z => .int z) (eY E 12) (eY E 12) (mI M a) (mI M b) h4
  rw [e1] at X' step
  have hlt : b < H.size := (Array.getElem?_eq_some_iff.mp hc1).1
  have hheap : ((T.setVm vm').setCell b (vp_cell (eY E 12) (sN S b, .inl (va_cpy (mI M a) (mI M b) sp.toNatClampNeg dp.toNatClampNeg x.toNatClampNeg)))).heap = H.setIfInBounds b (vp_cell (eY E 12) (sN S b, .inl (va_cpy (mI M a) (mI M b) sp.toNatClampNeg dp.toNatClampNeg x.toNatClampNeg))) := by rw [← hT]; rfl
  have oq : ∀ q : Nat, q ≠ b → (H.setIfInBounds b (vp_cell (eY E 12) (sN S b, .inl (va_cpy (mI M a) (mI M b) sp.toNatClampNeg dp.toNatClampNeg x.toNatClampNeg))))[q]? = H[q]? := fun q hq => by simp [Array.getElem?_setIfInBounds, Ne.symm hq]
  obtain ⟨t2, a1, b1⟩ := kk p l e R s m args below meth c Q _ _ ls X hR hret (hP.put (e := .inl (eY E 12, sN S b, .inl (va_cpy (mI M a) (mI M b) sp.toNatClampNeg dp.toNatClampNeg x.toNatClampNeg))) hbL (show (H.setIfInBounds b _)[b]? = some _ by simp [Array.getElem?_setIfInBounds, hlt]) (by simp) oq rfl rfl rfl (fun q => by
      by_cases hqb : q = b
      · subst hqb
        rw [va_up_self, zenc_ai hkb (by omega) (by omega)]
        have e3 : mI ((fun q' j => if q' = q then va_cpy (mI M a) (mI M q) sp.toNatClampNeg dp.toNatClampNeg x.toNatClampNeg j else mI M q' j, mJ M, mR M) : zH) q = va_cpy (mI M a) (mI M q) sp.toNatClampNeg dp.toNatClampNeg x.toNatClampNeg := by funext j; simp [mI]
        rw [e3]
      · rw [va_up_ne _ _ hqb]
        unfold zenc
        rw [zfs_congr (S' := S) (M' := (fun q' j => if q' = b then va_cpy (mI M a) (mI M b) sp.toNatClampNeg dp.toNatClampNeg x.toNatClampNeg j else mI M q' j, mJ M, mR M)) (S := S) (M := M) (a := q) (fun j t => by simp [zval, mI, mJ, hqb])]
        have e3 : mI ((fun q' j => if q' = b then va_cpy (mI M a) (mI M b) sp.toNatClampNeg dp.toNatClampNeg x.toNatClampNeg j else mI M q' j, mJ M, mR M) : zH) q = mI M q := by funext j; simp [mI, hqb]
        rw [e3]
        rfl)) ⟨by simp; exact hS.1, fun q g1 g2 => by
      rw [oq q (fun e => g2 (by rw [e]; exact hP.A hbL))]
      exact hS.2.1 q g1 g2, fun q hq => by
      rcases List.mem_append.mp hq with h | h
      · exact hS.2.2 q h
      · obtain ⟨z, -, hz⟩ := List.mem_map.mp h
        rw [← hz]
        exact hP.A hbL⟩ hl _ hheap X'
  exact ⟨t2, step t2 a1, b1⟩
theorem zo_new {c N : Nat} {C : String} {T : u_T} {ty : Nat → FieldType} {r : Nat × zS × zH} {k' n' : Nat} (q : Nat) (hK : zKd c C T N ty) (hd : decode (yB Y) pc = .ok (.new i, 3)) (e : zmkO S M c = some r) (hw1 : Cond.classLink (yN Y).cls i C ∈ zTB) (hw2 : Cond.instantiable C N ∈ zTB) (hw3 : Cond.initialized C ∈ zTB) (hdv : ∀ j, j < N → defaultValue (ty j) = vp_V ((zFK c).map (fun q => if q = 0 then Value.int 0 else if q = 1 then .long 0 else .null)) j) (hc : k' ≤ yC Y) (hs : n' ≤ yS Y) (hq : pc + 3 = q) (hk' : k + 1 = k') (hn' : n + N = n')
    (kk : zG E Y t q lo (.ref r.1 :: sk) r.2.1 r.2.2 k' n') : zG E Y t pc lo sk S M k n := by
  subst hq; subst hk'; subst hn'; cases e
  exact zi_new hK hd hw1 hw2 hw3 hdv hc hs kk
theorem zo_newarr {aty : ArrayType} {ty : FieldType} {c pos mx : Nat} {x : Int32} {r : Nat × zS × zH} {k' n' : Nat} (q : Nat) (hd : decode (yB Y) pc = .ok (.newarray aty, 2)) (e : zmkA S M c x mx = some r) (hmx : mx ≤ 65536) (hty : newarray.typeOf aty = ty) (hpos : (eT E)[pos]? = some (eY E c, ty)) (hcase : (c = 12 ∧ ty = .int) ∨ (c = 13 ∧ ty = .boolean) ∨ (c = 14 ∧ ty = .byte) ∨ (c = 15 ∧ ty = .long)) (hw : Cond.arrayClass ty ∈ zTB) (hc : k' ≤ yC Y) (hs : n' ≤ yS Y) (hq : pc + 2 = q) (hk' : k + 1 = k') (hn' : n + mx = n')
    (kk : zG E Y t q lo (.ref r.1 :: sk) r.2.1 r.2.2 k' n') : zG E Y t pc lo (.int x :: sk) S M k n := by
  subst hq; subst hk'; subst hn'
  unfold zmkA at e
  split at e
  · rename_i h; cases e
    exact zi_newarr hd hty hpos hcase hw h.1 (by omega) hc (by omega) (zi_wide _ _ (Nat.le_refl _) (by omega) kk)
  · cases e
theorem zo_anew {C : String} {c pos mx : Nat} {x : Int32} {r : Nat × zS × zH} {k' n' : Nat} (q : Nat) (hd : decode (yB Y) pc = .ok (.anewarray i, 3)) (e : zmkA S M c x mx = some r) (hmx : mx ≤ 65536) (hpos : (eT E)[pos]? = some (eY E c, .object C)) (h16 : 16 ≤ c) (hw1 : Cond.classLink (yN Y).cls i C ∈ zTB) (hw2 : C = zT16 ∨ C = zT17) (hc : k' ≤ yC Y) (hs : n' ≤ yS Y) (hq : pc + 3 = q) (hk' : k + 1 = k') (hn' : n + mx = n')
    (kk : zG E Y t q lo (.ref r.1 :: sk) r.2.1 r.2.2 k' n') : zG E Y t pc lo (.int x :: sk) S M k n := by
  subst hq; subst hk'; subst hn'
  unfold zmkA at e
  split at e
  · rename_i h; cases e
    exact zi_anew hd hpos h16 hw1 hw2 h.1 (by omega) hc (by omega) (zi_wide _ _ (Nat.le_refl _) (by omega) kk)
  · cases e
theorem zo_tlen {ty : FieldType} {ad N : Nat} {f : Nat → Value} (q : Nat) (hd : decode (yB Y) pc = .ok (.arraylength, 1)) (hm : (ty, ad, N, f) ∈ eRT E) (hq : pc + 1 = q) (kk : zG E Y t q lo (.int (nI N) :: sk) S M k n) : zG E Y t pc lo (.ref ad :: sk) S M k n := by
  subst hq
  intro p l e R s m args below meth c0 Q H locs ls X hR hret hP hS hl
  exact va_tlen X.1.1 X.1.2.1 (X.2.2.2.2.2.1.2.1 _ hm) hS rfl hd (kk p l e R s m args below meth c0 Q H locs ls X hR hret hP hS hl)
theorem zo_scrlen (q : Nat) (hd : decode (yB Y) pc = .ok (.arraylength, 1)) (hq : pc + 1 = q) (kk : zG E Y t q lo (.int (nI (eL E)) :: sk) S M k n) : zG E Y t pc lo (.ref (eb E) :: sk) S M k n := zo_tlen q hd List.mem_cons_self hq kk
theorem zo_stalen {ix : Nat} (q : Nat) (hd : decode (yB Y) pc = .ok (.arraylength, 1)) (hx : ix < 3) (hq : pc + 1 = q) (kk : zG E Y t q lo (.int (nI (zSta ix).length) :: sk) S M k n) : zG E Y t pc lo (.ref (eU E ix) :: sk) S M k n :=
  zo_tlen (N := (zSta ix).length) q hd (List.mem_cons_of_mem _ (List.mem_append_left _ (List.mem_map.mpr ⟨ix, List.mem_range.mpr hx, rfl⟩))) hq kk
theorem zo_litlen {ix : Nat} {x : Int32} (q : Nat) (hd : decode (yB Y) pc = .ok (.arraylength, 1)) (e : zln ix = some x) (hq : pc + 1 = q) (kk : zG E Y t q lo (.int x :: sk) S M k n) : zG E Y t pc lo (.ref (eV E ix) :: sk) S M k n := by
  unfold zln at e
  split at e
  · rename_i hx; cases e
    exact zo_tlen (N := (zLit ix).length) q hd (List.mem_cons_of_mem _ (List.mem_append_right _ (List.mem_map.mpr ⟨ix, List.mem_range.mpr hx, rfl⟩))) hq kk
  · cases e
theorem zo_litb {ix : Nat} {x : Int32} (q : Nat) (hd : decode (yB Y) pc = .ok (.baload, 1)) (e : zlb ix j = some x) (hq : pc + 1 = q) (kk : zG E Y t q lo (.int x :: sk) S M k n) : zG E Y t pc lo (.int j :: .ref (eV E ix) :: sk) S M k n := by
  subst hq
  unfold zlb at e
  split at e
  · rename_i hx; cases e
    intro p l e R s m args below meth c0 Q H locs ls X hR hret hP hS hl
    have hm : ((.byte, eV E ix, (zLit ix).length, fun j => .int ((zLit ix).getD j 0)) : zRT) ∈ eRT E := List.mem_cons_of_mem _ (List.mem_append_right _ (List.mem_map.mpr ⟨ix, List.mem_range.mpr hx.1, rfl⟩))
    exact va_tb X.1.1 X.1.2.1 (X.2.2.2.2.2.1.2.1 _ hm) hS hx.2 rfl hd (kk p l e R s m args below meth c0 Q H locs ls X hR hret hP hS hl)
  · cases e
/-- a field of a literal -/
theorem zo_litf {ix : Nat} {nm d : String} {v : Value} (q : Nat) (hd : decode (yB Y) pc = .ok (.getfield i, 3)) (hm : ("java/lang/String", nm, d, v, eK E ix) ∈ eRF E) (hw : Cond.fieldLink (yN Y).cls i "java/lang/String" nm d ∈ zTB) (hq : pc + 3 = q) (kk : zG E Y t q lo (v :: sk) S M k n) : zG E Y t pc lo (.ref (eK E ix) :: sk) S M k n := by
  subst hq
  intro p l e R s m args below meth c0 Q H locs ls X hR hret hP hS hl
  exact vk_getf X.1.1 X.1.2.1 (X.2.2.2.2.2.1.2.2.2 _ hm) hS X.1.2.2.2.1 (X.ts hw) (fun _ h => h) hd (kk p l e R s m args below meth c0 Q H locs ls X hR hret hP hS hl)
theorem zlitC (E : zE) {ix : Nat} (h : ix < 14) : ("java/lang/String", "coder", "B", .int 0, eK E ix) ∈ eRF E := List.mem_append_left _ (List.mem_map.mpr ⟨ix, List.mem_range.mpr h, rfl⟩)
theorem zlitV (E : zE) {ix : Nat} (h : ix < 14) : ("java/lang/String", "value", "[B", .ref (eV E ix), eK E ix) ∈ eRF E := List.mem_append_right _ (List.mem_map.mpr ⟨ix, List.mem_range.mpr h, rfl⟩)
set_option maxHeartbeats 1000000 in
/-- a method of a literal -/
theorem zo_virtS {Y' : zY} {ix : Nat} (q : Nat) (As : List Value) (sk st : List Value) {v : Option Value} {S' : zS} {M' : zH} {k' n' : Nat} (hx : ix < 14) (hC : zC E Y' (.ref (eK E ix) :: As) S M (v, S', M')) (hd : decode (yB Y) pc = .ok (.invokevirtual i, 3)) (hw0 : Cond.code (yN Y') (yB Y') (yL Y') (yR Y') ∈ zTB) (hw1 : Cond.methodLink (yN Y).cls i (yN Y') ∈ zTB) (hw2 : Cond.instanceMethod (yN Y') ∈ zTB) (hw3 : Cond.selects "java/lang/String" (yN Y') (yN Y') ∈ zTB) (hw4 : Cond.initialized "java/lang/String" ∈ zTB)
    (hdd : (yN Y').cls = "java/lang/String" ∧ (yN Y').cls ≠ "java/lang/invoke/MethodHandle" ∧ (yN Y').cls ≠ "java/lang/invoke/VarHandle" ∧ (parseMethodDescriptor (yN Y').desc).map (fun d => d.parameters.length) = some As.length) (hfit : zFit Y Y' k n) (hrest : (sk.map fun v => v.category).sum ≤ 8) (hq : pc + 3 = q) (hst : v.toList ++ sk = st) (hk' : k + yC Y' = k') (hn' : n + yS Y' = n')
    (kk : zG E Y t q lo st S' M' k' n') : zG E Y t pc lo (As.reverse ++ .ref (eK E ix) :: sk) S M k n := by
  subst hq; subst hst; subst hk'; subst hn'
  intro p l e R s m args below meth c0 Q H locs ls X hR hret hP hS hl
  have hgood : GoodIn (zws Y) (wsV (yN Y).cls i "java/lang/String" (yN Y') (zws Y')) := by
    intro w hw
    unfold wsV at hw
    rcases List.mem_append.mp hw with h | h
    · simp only [List.mem_cons, List.not_mem_nil, or_false] at h
      have key : ∀ w ∈ zTB, w ∈ zws Y ∧ ((w.onTables && w.keeps) = true ∨ ∃ ty, w = .arrayClass ty) := fun w hw => ⟨List.mem_cons_of_mem _ hw, good_of_word (List.mem_filter.mp hw).2⟩
      rcases h with rfl | rfl | rfl | rfl
      · exact key _ hw1
      · exact key _ hw2
      · exact key _ hw3
      · exact key _ hw4
    · exact zws_good hw0 w h
  have hro : (("java/lang/String", eK E ix) : zRO) ∈ eRO E := List.mem_map.mpr ⟨ix, List.mem_range.mpr hx, rfl⟩
  have hrun := va_runV (p := p) (l := l) (e := e) (R := R) (s := s) (m := m) (args := args) (below := below) (meth := meth) (c := c0) (H := H) (locs := locs) (cells := k) (slots := n) (g := F0 m pc ls (As.reverse ++ .ref (eK E ix) :: sk)) (As := As) (rest := sk) (b := eK E ix) X.1 (hC l) (cwV (R := R) (C := "java/lang/String") (bytes := yB Y') (maxL := yL Y') (ret := yR Y') As.length X.1.2.2.2.2 hgood rfl rfl rfl hdd (hfit.room hR))
    ⟨zWd_blind, by
      obtain ⟨cell, q1, q2, q3, -⟩ := (X.2.2.2.2.2.1.2.2.1 _ hro).kept hS.2.1
      exact ⟨cell, q1, q2, q3⟩, fun U hU hW => ⟨rfl, zPre X hP hS U hU hW⟩⟩ rfl rfl (hl.1.trans rfl) rfl (lv_room hrest) hd (hfit.cells hR)
  exact zgo hrun hS (fun H1 locs1 hP1 hS1 => kk p l e R s m args below meth c0 Q H1 locs1 ls X hR hret hP1 hS1 hl)
set_option maxHeartbeats 2000000 in
/-- clone() of an array of ints, and its cast -/
theorem zo_clone {i2 mx : Nat} {r : Nat × zS × zH} {k' n' : Nat} (q : Nat) (hd : decode (yB Y) pc = .ok (.invokevirtual i, 3)) (hd2 : decode (yB Y) (pc + 3) = .ok (.checkcast i2, 3)) (e : zcln S M a mx = some r)
    (hw1 : Cond.methodLink (yN Y).cls i ⟨"[I", "clone", "()Ljava/lang/Object;"⟩ ∈ zTB) (hw2 : Cond.sameMethod "[I" "java/lang/Object" "clone" "()Ljava/lang/Object;" ∈ zTB) (hw3 : Cond.native ⟨"java/lang/Object", "clone", "()Ljava/lang/Object;"⟩ ∈ zTB) (hw4 : Cond.instanceMethod ⟨"java/lang/Object", "clone", "()Ljava/lang/Object;"⟩ ∈ zTB) (hw5 : Cond.selects "[I" ⟨"[I", "clone", "()Ljava/lang/Object;"⟩ ⟨"java/lang/Object", "clone", "()Ljava/lang/Object;"⟩ ∈ zTB) (hw6 : Cond.classLink (yN Y).cls i2 "[I" ∈ zTB)
    (h1 : 1 ≤ yH Y) (h2 : (sk.map fun v => v.category).sum ≤ 8) (hc : k' ≤ yC Y) (hs : n' ≤ yS Y) (hq : pc + 6 = q) (hk' : k + 1 = k') (hn' : n + mx = n') (kk : zG E Y t q lo (.ref r.1 :: sk) r.2.1 r.2.2 k' n') : zG E Y t pc lo (.ref a :: sk) S M k n := by
  subst hq; subst hk'; subst hn'
  unfold zcln at e
  split at e
  case isFalse => cases e
  case isTrue hcc =>
  cases e
  obtain ⟨hka, hmx⟩ := hcc
  intro p l e R s m args below meth c Q H locs ls X hR hret hP hS hl
  have haa := hP.at (hP.2.2.2 a (by rw [hka]; omega))
  rw [zenc_ai hka (by omega) (by omega)] at haa
  have hcell : H[a]? = some (vp_cell (eY E 12) (sN S a, .inl (mI M a))) := haa
  have hK := X.2.2.2.2.1.1
  have hz := hP.2.2.1
  have hnm : s.vm.findClass "[I" = some (eY E 12) := (hK.2 0 (eY E 12, .int) rfl).2
  have hsz : (vp_cell (eY E 12) (sN S a, .inl (mI M a))).slots.size = sN S a := arrV_size _ _ _
  obtain ⟨c0, t0', f1, f2, f3⟩ := Cond.castable_spec (va_Nw.use (A := args) rfl X.2.2.2.2.1.2.2.2.2.2)
  cases hnm.symm.trans f1
  intro T hT XX
  have hcellT : T.heap[a]? = some (vp_cell (eY E 12) (sN S a, .inl (mI M a))) := by rw [hT]; exact hcell
  obtain ⟨-, kA, hkA, comp, hkind⟩ := State.isArrayOf_alike XX.warmed.alike ((hK.2 0 (eY E 12, .int) rfl).1 0 (fun _ => .null))
  obtain ⟨-, kS, hkS, compS, hkindS⟩ := (hK.2 0 (eY E 12, .int) rfl).1 0 (fun _ => .null)
  have hlo := hR.2.1
  obtain ⟨vm', X', st⟩ := XX.cloneArray X.1.1 X.1.2.2.2.1 (X.ts hw1) (X.ts hw2) (X.ts hw3) (X.ts hw4) (X.ts hw5) (a := a) (cell := vp_cell (eY E 12) (sN S a, .inl (mI M a))) hcellT (fun k h => by cases h) (fun h => by cases h) hnm f2 f3
    (fun i v hv => by
      have hk' : T.vm.classes[eY E 12]? = some kA := hkA
      have hv2 : (arrV (eY E 12) (sN S a) (fun j => .int (mI M a j))).slots[i]? = some v := hv
      have hi : i < sN S a := by
        have := (Array.getElem?_eq_some_iff.mp hv2).1
        rw [arrV_size] at this
        exact this
      rw [arrV_read _ _ hi] at hv2
      cases hv2
      show T.fitsSlot (eY E 12) .none i _ = true
      simp [State.fitsSlot, State.slotType?, hk', hkind, fits])
    (g := F0 m pc ls (.ref a :: sk)) rfl (by rw [X.1.2.2.1]; exact hl.1) rfl (by rw [X.1.2.1]; exact hd) (Nat.le_trans h1 hR.1) (by show 2 * 0 + _ + 14 ≤ _; omega) (by have := hR.2.2.1; omega) (by rw [hsz]; have := hR.2.2.2; omega) (hloader := Vm.clonesLoader_of_array hkS hkindS)
  rw [hsz] at X'
  generalize hH1 : H.push (vp_cell (eY E 12) (sN S a, .inl (mI M a))) = H1
  have z1 : H1.size = H.size + 1 := by rw [← hH1, Array.size_push]
  have e1 : H1[H.size]? = some (vp_cell (eY E 12) (sN S a, .inl (mI M a))) := by rw [← hH1, Array.getElem?_push_size]
  have o1 : ∀ q : Nat, q < H.size → H1[q]? = H[q]? := fun q hq => by rw [← hH1, Array.getElem?_push, if_neg (Nat.ne_of_lt hq)]
  have hP1 : zPic E (zNew S 12 (sN S a)) (fun b j => if b = sZ S then mI M a j else mI M b j, fun b j => if b = sZ S then 0 else mJ M b j, fun b j => if b = sZ S then none else mR M b j) H1 := by
    have hfresh : sZ S ∉ sL S := by
      intro h
      have := (hP.at h).lt
      dsimp only at this
      omega
    have hkk : ∀ (k : Nat) (x : Nat × va_E), (zpool E S M)[k]? = some x → H1[x.1]? = H[x.1]? := fun k x hx => o1 x.1 ((hP.1 k x hx).lt)
    have h1 : va_P (eD E) zCL (zpool E S M ++ [(sZ S, .inl (eY E 12, sN S a, .inl (mI M a)))]) H1 := (hP.1.kept hkk).app (fun k x hx => by
      have hz1 : k < 1 := (List.getElem?_eq_some_iff.mp hx).1
      rw [show k = 0 by omega] at hx
      cases hx
      rw [← hz]
      exact e1)
    have h2 : va_D (eA E) (zpool E S M ++ [(sZ S, .inl (eY E 12, sN S a, .inl (mI M a)))]) := hP.2.1.push hP.1 hz.symm (by rw [← hz]; exact zA_new X.2.2.2.2.2.2 _ hS.1)
    have e2 : zpool E S M ++ [(sZ S, .inl (eY E 12, sN S a, .inl (mI M a)))] = zpool E (zNew S 12 (sN S a)) (fun b j => if b = sZ S then mI M a j else mI M b j, fun b j => if b = sZ S then 0 else mJ M b j, fun b j => if b = sZ S then none else mR M b j) := by
      rw [show zpool E S M = va_pl (sL S) (zenc (eY E) S M) from rfl, va_pl_push hfresh]
      show _ = va_pl (sL S ++ [sZ S]) _
      refine va_pl_congr (fun b => ?_)
      by_cases hb : b = sZ S
      · subst hb
        rw [va_up_self]
        have eK : sK (zNew S 12 (sN S a)) (sZ S) = 12 := by simp [zNew, sK]
        have eN : sN (zNew S 12 (sN S a)) (sZ S) = sN S a := by simp [zNew, sN]
        rw [zenc_ai eK (by omega) (by omega), eN]
        have eI : mI ((fun b j => if b = sZ S then mI M a j else mI M b j, fun b j => if b = sZ S then 0 else mJ M b j, fun b j => if b = sZ S then none else mR M b j) : zH) (sZ S) = mI M a := by funext j; simp [mI]
        rw [eI]
      · rw [va_up_ne _ _ hb]
        unfold zenc
        rw [zfs_congr (S' := zNew S 12 (sN S a)) (M' := (fun b j => if b = sZ S then mI M a j else mI M b j, fun b j => if b = sZ S then 0 else mJ M b j, fun b j => if b = sZ S then none else mR M b j)) (S := S) (M := M) (a := b) (fun j t => by simp [zval, zNew, mI, mJ, sF, hb])]
        have q1 : sK (zNew S 12 (sN S a)) b = sK S b := by simp [zNew, sK, hb]
        have q2 : sN (zNew S 12 (sN S a)) b = sN S b := by simp [zNew, sN, hb]
        have q3 : mI ((fun b j => if b = sZ S then mI M a j else mI M b j, fun b j => if b = sZ S then 0 else mJ M b j, fun b j => if b = sZ S then none else mR M b j) : zH) b = mI M b := by funext j; simp [mI, hb]
        have q4 : mJ ((fun b j => if b = sZ S then mI M a j else mI M b j, fun b j => if b = sZ S then 0 else mJ M b j, fun b j => if b = sZ S then none else mR M b j) : zH) b = mJ M b := by funext j; simp [mJ, hb]
        have q5 : mR ((fun b j => if b = sZ S then mI M a j else mI M b j, fun b j => if b = sZ S then 0 else mJ M b j, fun b j => if b = sZ S then none else mR M b j) : zH) b = mR M b := by funext j; simp [mR, hb]
        rw [q1, q2, q3, q4, q5]
    rw [e2] at h1 h2
    refine ⟨h1, h2, by rw [z1, hz]; rfl, fun b hb => ?_⟩
    show b ∈ sL S ++ [sZ S]
    by_cases hbz : b = sZ S
    · subst hbz; simp
    · exact List.mem_append_left _ (hP.2.2.2 b (by simpa [zNew, sK, hbz] using hb))
  have W2 : W p l e R s m args below meth c H1 locs (k + 1) (n + sN S a) Q (F0 m (pc + 3) ls (.ref (sZ S) :: sk)) := by
    have hnew : H1[sZ S]? = some (vp_cell (eY E 12) (sN S a, .inl (mI M a))) := by rw [← hz]; exact e1
    intro T2 hT2 X2
    obtain ⟨vm2, X3, st3⟩ := X2.checkcastYes X.1.1 X.1.2.2.2.1 (X.ts hw6) (a := sZ S) (by rw [hT2]; exact hnew) rfl hnm (va_asg _ _) (g := F0 m (pc + 3) ls (.ref (sZ S) :: sk)) rfl rfl (by rw [X.1.2.1]; exact hd2)
    obtain ⟨t2, a1, b1⟩ := (W.widen (Nat.le_refl (k + 1)) (by omega : n + sN S a ≤ n + mx) (kk p l e R s m args below meth c Q H1 locs ls X hR hret hP1 (hS.grow z1 o1) hl)) (T2.setVm vm2) hT2 X3
    exact ⟨t2, st3 t2 a1, b1⟩
  obtain ⟨t2, b1, b2⟩ := W2 ((T.setVm vm').pushCell (vp_cell (eY E 12) (sN S a, .inl (mI M a)))) (by rw [← hH1, ← hT]; rfl) X'
  refine ⟨t2, st t2 ?_, b2⟩
  rw [hT, hz]
  exact b1
end
