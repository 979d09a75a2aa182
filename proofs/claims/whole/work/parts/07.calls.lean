/-! ROWS: new cells, calls, what is read only -/
def zNew (S : zS) (c ln : Nat) : zS := (sL S ++ [sZ S], fun b => if b = sZ S then c else sK S b, fun b => if b = sZ S then ln else sN S b, fun b j => if b = sZ S then none else sF S b j, sZ S + 1)
def mNew (M : zH) (q : Nat) : zH := (fun b j => if b = q then 0 else mI M b j, fun b j => if b = q then 0 else mJ M b j, fun b j => if b = q then none else mR M b j)
theorem zenc_new_ne (cy : Nat → ClassId) (S : zS) (M : zH) (c ln : Nat) {b : Nat} (hb : b ≠ sZ S) : zenc cy (zNew S c ln) (mNew M (sZ S)) b = zenc cy S M b := by
  unfold zenc
  rw [zfs_congr (S' := zNew S c ln) (M' := mNew M (sZ S)) (S := S) (M := M) (a := b) (fun j t => by simp [zval, zNew, mNew, mI, mJ, sF, hb])]
  have e1 : sK (zNew S c ln) b = sK S b := by simp [zNew, sK, hb]
  have e2 : sN (zNew S c ln) b = sN S b := by simp [zNew, sN, hb]
  have e3 : mI (mNew M (sZ S)) b = mI M b := by funext j; simp [mNew, mI, hb]
  have e4 : mJ (mNew M (sZ S)) b = mJ M b := by funext j; simp [mNew, mJ, hb]
  have e5 : mR (mNew M (sZ S)) b = mR M b := by funext j; simp [mNew, mR, hb]
  rw [e1, e2, e3, e4, e5]
section
variable {E : zE} {Y : zY} {t : zTau} {pc : Nat} {lo : List (Nat × Value)} {sk : List Value} {S : zS} {M : zH} {k n : Nat} {a : Nat} {i : Nat}
theorem zPic.push {c ln : Nat} {H H1 : Heap} (hP : zPic E S M H) (he : va_at (eD E) zCL (sZ S, zenc (eY E) (zNew S c ln) (mNew M (sZ S)) (sZ S)) H1) (z : H1.size = H.size + 1) (oq : ∀ q : Nat, q < H.size → H1[q]? = H[q]?) (hA : eA E H.size) : zPic E (zNew S c ln) (mNew M (sZ S)) H1 := by
  have hz := hP.2.2.1
  have hfresh : sZ S ∉ sL S := by
    intro h
    have := (hP.at h).lt
    dsimp only at this
    omega
  have hk : ∀ (k : Nat) (x : Nat × va_E), (zpool E S M)[k]? = some x → H1[x.1]? = H[x.1]? := fun k x hx => oq x.1 ((hP.1 k x hx).lt)
  have h1 : va_P (eD E) zCL (zpool E S M ++ [(sZ S, zenc (eY E) (zNew S c ln) (mNew M (sZ S)) (sZ S))]) H1 := (hP.1.kept hk).app (fun k x hx => by
    have hz : k < 1 := (List.getElem?_eq_some_iff.mp hx).1
    rw [show k = 0 by omega] at hx
    cases hx
    exact he)
  have h2 : va_D (eA E) (zpool E S M ++ [(sZ S, zenc (eY E) (zNew S c ln) (mNew M (sZ S)) (sZ S))]) := hP.2.1.push hP.1 hz.symm (by rw [← hz]; exact hA)
  have e1 : zpool E S M ++ [(sZ S, zenc (eY E) (zNew S c ln) (mNew M (sZ S)) (sZ S))] = zpool E (zNew S c ln) (mNew M (sZ S)) := by
    rw [show zpool E S M = va_pl (sL S) (zenc (eY E) S M) from rfl, va_pl_push hfresh]
    show _ = va_pl (sL S ++ [sZ S]) _
    refine va_pl_congr (fun b => ?_)
    by_cases hb : b = sZ S
    · subst hb; rw [va_up_self]
    · rw [va_up_ne _ _ hb, zenc_new_ne _ _ _ _ _ hb]
  rw [e1] at h1 h2
  refine ⟨h1, h2, by rw [z, hz]; rfl, fun b hb => ?_⟩
  show b ∈ sL S ++ [sZ S]
  by_cases hbz : b = sZ S
  · subst hbz; simp
  · exact List.mem_append_left _ (hP.2.2.2 b (by simpa [zNew, sK, hbz] using hb))
theorem va_S.grow {A : Nat → Prop} {H0 H H1 : Heap} {locs : List Loc} (hS : va_S A H0 H locs) (z : H1.size = H.size + 1) (oq : ∀ q : Nat, q < H.size → H1[q]? = H[q]?) : va_S A H0 H1 locs :=
  ⟨Nat.le_trans hS.1 (by omega), fun x h1 h2 => (oq x (Nat.lt_of_lt_of_le h1 hS.1)).trans (hS.2.1 x h1 h2), hS.2.2⟩
set_option maxHeartbeats 1000000 in
theorem zi_newarr {aty : ArrayType} {ty : FieldType} {c pos : Nat} {x : Int32} (hd : decode (yB Y) pc = .ok (.newarray aty, 2)) (hty : newarray.typeOf aty = ty) (hpos : (eT E)[pos]? = some (eY E c, ty)) (hcase : (c = 12 ∧ ty = .int) ∨ (c = 13 ∧ ty = .boolean) ∨ (c = 14 ∧ ty = .byte) ∨ (c = 15 ∧ ty = .long)) (hw : Cond.arrayClass ty ∈ zTB) (h0 : ¬ x < 0) (hb : x.toNatClampNeg * 8 ≤ 536870912) (hc : k + 1 ≤ yC Y) (hs : n + x.toNatClampNeg ≤ yS Y)
    (kk : zG E Y t (pc + 2) lo (.ref (sZ S) :: sk) (zNew S c x.toNatClampNeg) (mNew M (sZ S)) (k + 1) (n + x.toNatClampNeg)) : zG E Y t pc lo (.int x :: sk) S M k n := by
  intro p l e R s m args below meth c0 Q H locs ls X hR hret hP hS hl
  subst hty
  have hK := X.2.2.2.2.1.1
  have hbytes : x.toNatClampNeg * componentBytes (newarray.typeOf aty) ≤ 536870912 := by
    rcases hcase with ⟨-, h⟩ | ⟨-, h⟩ | ⟨-, h⟩ | ⟨-, h⟩ <;> rw [h] <;> simp only [componentBytes] <;> omega
  refine va_newaK X.1.1 X.1.2.1 (X.ts hw) rfl hd rfl h0 rfl hbytes (Nat.le_trans hc hR.2.2.1) (Nat.le_trans hs hR.2.2.2) hP.2.2.1 fun H1 cA e1 z1 o1 hAr hNm => ?_
  have hcy : cA = eY E c := by
    have h2 := (hK.2 pos _ hpos).2
    have h3 : s.vm.findClass ("[" ++ (newarray.typeOf aty).toString) = some (eY E c) := by
      rcases hcase with ⟨-, h⟩ | ⟨-, h⟩ | ⟨-, h⟩ | ⟨-, h⟩ <;> (dsimp only at h2; rw [h] at h2 ⊢; exact h2)
    exact Option.some.inj (hNm.symm.trans h3)
  subst hcy
  have hz := hP.2.2.1
  refine kk p l e R s m args below meth c0 Q H1 locs ls X hR hret (hP.push ?_ (by rw [z1, hz]) (fun q hq => o1 q (by rw [← hz]; exact hq)) (zA_new X.2.2.2.2.2.2 _ hS.1)) (hS.grow (by rw [z1, hz]) (fun q hq => o1 q (by rw [← hz]; exact hq))) hl
  have eK : sK (zNew S c x.toNatClampNeg) (sZ S) = c := by simp [zNew, sK]
  have eN : sN (zNew S c x.toNatClampNeg) (sZ S) = x.toNatClampNeg := by simp [zNew, sN]
  have eI : mI (mNew M (sZ S)) (sZ S) = fun _ => 0 := by funext j; simp [mNew, mI]
  have eJ : mJ (mNew M (sZ S)) (sZ S) = fun _ => 0 := by funext j; simp [mNew, mJ]
  rcases hcase with ⟨rfl, h⟩ | ⟨rfl, h⟩ | ⟨rfl, h⟩ | ⟨rfl, h⟩
  · rw [zenc_ai eK (by omega) (by omega), eN, eI]
    rw [h] at e1
    exact e1
  · rw [zenc_ai eK (by omega) (by omega), eN, eI]
    rw [h] at e1
    exact e1
  · rw [zenc_ai eK (by omega) (by omega), eN, eI]
    rw [h] at e1
    exact e1
  · rw [zenc_aj eK, eN, eJ]
    rw [h] at e1
    exact e1
set_option maxHeartbeats 1000000 in
theorem zi_anew {C : String} {c pos : Nat} {x : Int32} (hd : decode (yB Y) pc = .ok (.anewarray i, 3)) (hpos : (eT E)[pos]? = some (eY E c, .object C)) (h16 : 16 ≤ c) (hw1 : Cond.classLink (yN Y).cls i C ∈ zTB) (hw2 : C = zT16 ∨ C = zT17) (h0 : ¬ x < 0) (hb : x.toNatClampNeg * 4 ≤ 536870912) (hc : k + 1 ≤ yC Y) (hs : n + x.toNatClampNeg ≤ yS Y)
    (kk : zG E Y t (pc + 3) lo (.ref (sZ S) :: sk) (zNew S c x.toNatClampNeg) (mNew M (sZ S)) (k + 1) (n + x.toNatClampNeg)) : zG E Y t pc lo (.int x :: sk) S M k n := by
  intro p l e R s m args below meth c0 Q H locs ls X hR hret hP hS hl
  have hK := X.2.2.2.2.1.1
  have hz := hP.2.2.1
  refine W.anew X.1.1 X.1.2.1 X.1.2.2.2.1 (X.ts hw1) (show (Cond.arrayOver (.object C)).before args s = true by rcases hw2 with rfl | rfl; exact va_AO.use X.2.2.2.2.1.2.2.2.1; exact va_AO.use X.2.2.2.2.1.2.2.2.2.1) rfl hd rfl h0 hb (Nat.le_trans hc hR.2.2.1) (Nat.le_trans hs hR.2.2.2) fun cA kA comp f1 f2 f3 f4 => ?_
  generalize hH1 : H.push ({ cls := cA, slots := Array.replicate x.toNatClampNeg .null, vm := .none } : Cell) = H1
  have z1 : H1.size = H.size + 1 := by rw [← hH1, Array.size_push]
  have e1 : H1[H.size]? = some (arrV cA x.toNatClampNeg (fun _ => .null)) := by rw [← hH1, Array.getElem?_push_size, ← arrV_new]
  have o1 : ∀ q : Nat, q < H.size → H1[q]? = H[q]? := fun q hq => by rw [← hH1, Array.getElem?_push, if_neg (Nat.ne_of_lt hq)]
  have hcy : cA = eY E c := by
    obtain ⟨kA', comp', g1, g2, g3, g4⟩ := (hK.2 pos _ hpos).2
    exact Option.some.inj (f1.symm.trans g4)
  subst hcy
  show W p l e R s m args below meth c0 H1 locs (k + 1) (n + x.toNatClampNeg) Q (F0 m (pc + 3) ls (.ref H.size :: sk))
  rw [hz]
  refine kk p l e R s m args below meth c0 Q H1 locs ls X hR hret (hP.push ?_ z1 o1 (zA_new X.2.2.2.2.2.2 _ hS.1)) (hS.grow z1 o1) hl
  have eK : sK (zNew S c x.toNatClampNeg) (sZ S) = c := by simp [zNew, sK]
  have eN : sN (zNew S c x.toNatClampNeg) (sZ S) = x.toNatClampNeg := by simp [zNew, sN]
  have eR : mR (mNew M (sZ S)) (sZ S) = fun _ => none := by funext j; simp [mNew, mR]
  rw [zenc_ar eK h16, eN, eR]
  rw [hz] at e1
  exact e1
set_option maxHeartbeats 1000000 in
theorem zi_new {c N : Nat} {C : String} {T : u_T} {ty : Nat → FieldType} (hK : zKd c C T N ty) (hd : decode (yB Y) pc = .ok (.new i, 3)) (hw1 : Cond.classLink (yN Y).cls i C ∈ zTB) (hw2 : Cond.instantiable C N ∈ zTB) (hw3 : Cond.initialized C ∈ zTB) (hdv : ∀ j, j < N → defaultValue (ty j) = vp_V ((zFK c).map (fun q => if q = 0 then Value.int 0 else if q = 1 then .long 0 else .null)) j) (hc : k + 1 ≤ yC Y) (hs : n + N ≤ yS Y)
    (kk : zG E Y t (pc + 3) lo (.ref (sZ S) :: sk) (zNew S c 0) (mNew M (sZ S)) (k + 1) (n + N)) : zG E Y t pc lo sk S M k n := by
  intro p l e R s m args below meth c0 Q H locs ls X hR hret hP hS hl
  obtain ⟨h12, hcl, hin, hty, hnm, hlen⟩ := hK
  have hKn := X.2.2.2.2.1.1.1 c _ hcl
  have hz := hP.2.2.1
  refine W.newcK X.1.1 X.1.2.1 X.1.2.2.2.1 (X.ts hw1) (X.ts hw2) (X.ts hw3) rfl hd (Nat.le_trans hc hR.2.2.1) (Nat.le_trans hs hR.2.2.2) hKn.2.1 hz fun H1 kC hkC e1 z1 o1 => ?_
  refine kk p l e R s m args below meth c0 Q H1 locs ls X hR hret (hP.push ?_ (by rw [z1, hz]) (fun q hq => o1 q (by rw [← hz]; exact hq)) (zA_new X.2.2.2.2.2.2 _ hS.1)) (hS.grow (by rw [z1, hz]) (fun q hq => o1 q (by rw [← hz]; exact hq))) hl
  have eK : sK (zNew S c 0) (sZ S) = c := by simp [zNew, sK]
  rw [zenc_ob eK h12]
  have e2 : zfs (zNew S c 0) (mNew M (sZ S)) (sZ S) c = (zFK c).map (fun q => if q = 0 then Value.int 0 else if q = 1 then .long 0 else .null) := by
    apply List.ext_getElem?
    intro j
    cases hj : (zFK c)[j]? with
    | none =>
      have h1 : (zFK c).length ≤ j := by simpa using hj
      rw [List.getElem?_eq_none (by rw [zfs_len]; exact h1), List.getElem?_eq_none (by rw [List.length_map]; exact h1)]
    | some q =>
      rw [zfs_get hj, List.getElem?_map, hj]
      simp only [Option.map_some, Option.some.injEq, zval, mNew, mI, mJ, zNew, sF, if_true]
      rfl
  rw [e2]
  exact ⟨_, hcl, (u_born ty (fun w hw => X.ts hw) hin hKn hkC e1 hty).to hdv⟩
theorem zi_objInit {i : Nat} (hd : decode (yB Y) pc = .ok (.invokespecial i, 3)) (hw1 : Cond.methodLink (yN Y).cls i Lib.objectInit ∈ zTB) (hw2 : Cond.instanceMethod Lib.objectInit ∈ zTB) (hw3 : Cond.code Lib.objectInit ⟨#[0xb1]⟩ 1 none ∈ zTB) (h1 : 1 ≤ yH Y) (h2 : (sk.map fun v => v.category).sum ≤ 8) (kk : zG E Y t (pc + 3) lo sk S M k n) : zG E Y t pc lo (.ref a :: sk) S M k n := by
  intro p l e R s m args below meth c0 Q H locs ls X hR hret hP hS hl
  refine W.objInit X.1.1 X.1.2.1 X.1.2.2.2.1 (X.ts hw1) (X.ts hw2) (X.ts hw3) rfl (by rw [X.1.2.2.1]; exact hl.1) rfl hd (Nat.le_trans h1 hR.1) ?_ (kk p l e R s m args below meth c0 Q H locs ls X hR hret hP hS hl)
  have h3 := hR.2.1
  have h4 := lv_room (m := m) (pc := pc) (ls := ls) (rest := .ref a :: sk) h2
  omega
/-- behind a call -/
theorem zgo {p : Program} {l : Launch} {e : Env} {R : Room} {s : State} {m : MethodId} {args : Array Value} {below : List Frame} {meth : Method} {c : Code} {Q : State → Prop} {H : Heap} {locs : List Loc} {ls : Array Slot} {mc ms : Nat} {st0 rest : List Value} {av : Array Value} {t' : zTau}
    (hr : va_Run p l e R s m args below meth c H locs k n mc ms (F0 m pc ls st0) rest (zQ E t' av) (eA E)) (hS : va_S (eA E) s.heap H locs)
    (kk : ∀ (H1 : Heap) (locs1 : List Loc), zPic E t'.2.1 t'.2.2 H1 → va_S (eA E) s.heap H1 locs1 → W p l e R s m args below meth c H1 locs1 (k + mc) (n + ms) Q (F0 m (pc + 3) ls (t'.1.toList ++ rest))) : W p l e R s m args below meth c H locs k n Q (F0 m pc ls st0) := by
  intro T hT X
  obtain ⟨v, st₀, t, T', L, h0, X', hL, e1, e2, ⟨hv, hp, hz, hk⟩, st⟩ := hr T hT X
  have hv : v = t'.1 := by cases hv; rfl
  subst hv
  rw [h0] at hz hk
  obtain ⟨t2, a1, b1⟩ := kk T'.heap (locs ++ L) (by rw [e1]; exact hp)
    ⟨Nat.le_trans hS.1 (by rw [e1]; exact hz), fun q h1 h2 => by rw [e1, hk q (Nat.lt_of_lt_of_le h1 hS.1) h2]; exact hS.2.1 q h1 h2, fun q hq => by
      rcases List.mem_append.mp hq with h | h
      · exact hS.2.2 q h
      · exact hL q h⟩ T' rfl X'
  exact ⟨t2, st t2 a1, b1⟩
theorem zPre {p : Program} {s : State} {m : MethodId} {args : Array Value} {meth : Method} {c : Code} {H : Heap} {locs : List Loc} (X : zX E Y p s m args meth c) (hP : zPic E S M H) (hS : va_S (eA E) s.heap H locs) : ∀ U : State, U.heap = H → s.WarmedH U.vm → zWd E S M U := by
  intro U hU hW
  refine ⟨by rw [hU]; exact hP, X.2.2.2.2.1.warm hW, ?_, ?_⟩
  · rw [hU]
    exact (X.2.2.2.2.2.1.moved hW.alike).kept hS.2.1
  · rw [hU]
    exact Nat.le_trans X.2.2.2.2.2.2 hS.1
/-- the room of a callee -/
def zFit (Y Y' : zY) (k n : Nat) : Prop := yH Y' + 1 ≤ yH Y ∧ yL Y' ≤ 41 ∧ k + yC Y' ≤ yC Y ∧ n + yS Y' ≤ yS Y
theorem zFit.room {Y' : zY} {R : Room} (h : zFit Y Y' k n) (hR : zRm Y R) : (zrm Y').frames + 1 ≤ R.frames ∧ 8 + (yL Y' + 11) + (zrm Y').locals ≤ R.locals := by
  obtain ⟨h1, h2, h3, h4⟩ := h
  obtain ⟨r1, r2, r3, r4⟩ := hR
  show yH Y' + 1 ≤ R.frames ∧ 8 + (yL Y' + 11) + 60 * yH Y' ≤ R.locals
  omega
theorem zFit.cells {Y' : zY} {R : Room} (h : zFit Y Y' k n) (hR : zRm Y R) : k + yC Y' ≤ R.cells ∧ n + yS Y' ≤ R.slots := ⟨Nat.le_trans h.2.2.1 hR.2.2.1, Nat.le_trans h.2.2.2 hR.2.2.2⟩
set_option maxHeartbeats 1000000 in
/-- a method of an own object -/
theorem zi_virt {Y' : zY} {c N : Nat} {C : String} {T : u_T} {ty : Nat → FieldType} {b : Nat} (As : List Value) {v : Option Value} {S' : zS} {M' : zH} (hK : zKd c C T N ty) (hC : zC E Y' (.ref b :: As) S M (v, S', M')) (hd : decode (yB Y) pc = .ok (.invokevirtual i, 3)) (hk : sK S b = c) (hw0 : Cond.code (yN Y') (yB Y') (yL Y') (yR Y') ∈ zTB) (hw1 : Cond.methodLink (yN Y).cls i (yN Y') ∈ zTB) (hw2 : Cond.instanceMethod (yN Y') ∈ zTB) (hw3 : Cond.selects C (yN Y') (yN Y') ∈ zTB) (hw4 : Cond.initialized C ∈ zTB)
    (hdd : (yN Y').cls = C ∧ (yN Y').cls ≠ "java/lang/invoke/MethodHandle" ∧ (yN Y').cls ≠ "java/lang/invoke/VarHandle" ∧ (parseMethodDescriptor (yN Y').desc).map (fun d => d.parameters.length) = some As.length) (hfit : zFit Y Y' k n) (hrest : (sk.map fun v => v.category).sum ≤ 8)
    (kk : zG E Y t (pc + 3) lo (v.toList ++ sk) S' M' (k + yC Y') (n + yS Y')) : zG E Y t pc lo (As.reverse ++ .ref b :: sk) S M k n := by
  intro p l e R s m args below meth c0 Q H locs ls X hR hret hP hS hl
  have hat := hP.at (hP.2.2.2 b (by rw [hk]; exact Nat.lt_of_lt_of_le hK.1 (by omega)))
  rw [zenc_ob hk hK.1] at hat
  have hgood : GoodIn (zws Y) (wsV (yN Y).cls i C (yN Y') (zws Y')) := by
    intro w hw
    unfold wsV at hw
    rcases List.mem_append.mp hw with h | h
    · simp only [List.mem_cons, List.not_mem_nil, or_false] at h
      have key : ∀ w ∈ zTB, w ∈ zws Y ∧ ((w.onTables && w.keeps) = true ∨ ∃ ty, w = .arrayClass ty) := fun w hw => ⟨List.mem_cons_of_mem _ hw, good_of_word (List.mem_filter.mp hw).2⟩
      rcases h with rfl | rfl | rfl | rfl
      · exact key _ hw1
      · exact key _ hw2
      · exact key _ hw3
      · exact key _ hw4
    · exact zws_good hw0 w h
  have hrun := va_runV (p := p) (l := l) (e := e) (R := R) (s := s) (m := m) (args := args) (below := below) (meth := meth) (c := c0) (H := H) (locs := locs) (cells := k) (slots := n) (g := F0 m pc ls (As.reverse ++ .ref b :: sk)) (As := As) (rest := sk) (b := b) X.1 (hC l) (cwV (R := R) (C := C) (bytes := yB Y') (maxL := yL Y') (ret := yR Y') As.length X.1.2.2.2.2 hgood rfl rfl rfl hdd (hfit.room hR))
    ⟨zWd_blind, by
      obtain ⟨r, h1, cell, q1, q2, q3, -⟩ := hat
      have hcl := (X.2.2.2.2.1.1.1 c _ hK.2.1).2.1
      exact ⟨cell, q1, by rw [q3]; rfl, by rw [q2]; exact hcl⟩, fun U hU hW => ⟨rfl, zPre X hP hS U hU hW⟩⟩ rfl rfl (hl.1.trans rfl) rfl (lv_room hrest) hd (hfit.cells hR)
  exact zgo hrun hS (fun H1 locs1 hP1 hS1 => kk p l e R s m args below meth c0 Q H1 locs1 ls X hR hret hP1 hS1 hl)
set_option maxHeartbeats 1000000 in
/-- a static method of the same type -/
theorem zi_stat {Y' : zY} (As : List Value) {v : Option Value} {S' : zS} {M' : zH} (hC : zC E Y' As S M (v, S', M')) (hd : decode (yB Y) pc = .ok (.invokestatic i, 3)) (hw0 : Cond.code (yN Y') (yB Y') (yL Y') (yR Y') ∈ zTB) (hw1 : Cond.methodLink (yN Y).cls i (yN Y') ∈ zTB) (hw2 : Cond.static (yN Y') ∈ zTB) (hw4 : Cond.initialized (yN Y').cls ∈ zTB)
    (hdd : (yN Y').cls ≠ "java/lang/invoke/MethodHandle" ∧ (yN Y').cls ≠ "java/lang/invoke/VarHandle" ∧ (parseMethodDescriptor (yN Y').desc).map (fun d => d.parameters.length) = some As.length) (hfit : zFit Y Y' k n) (hrest : (sk.map fun v => v.category).sum ≤ 8)
    (kk : zG E Y t (pc + 3) lo (v.toList ++ sk) S' M' (k + yC Y') (n + yS Y')) : zG E Y t pc lo (As.reverse ++ sk) S M k n := by
  intro p l e R s m args below meth c0 Q H locs ls X hR hret hP hS hl
  have hrun := va_runS (p := p) (l := l) (e := e) (R := R) (s := s) (m := m) (args := args) (below := below) (meth := meth) (c := c0) (H := H) (locs := locs) (cells := k) (slots := n) (g := F0 m pc ls (As.reverse ++ sk)) (As := As) (rest := sk) X.1 (hC l) ⟨callB_of (R := R) (bytes := yB Y') (maxL := yL Y') (ret := yR Y') As.length X.1.2.2.2.2 (zws_good hw0) rfl rfl rfl (X.ts hw4) (X.ts hw1) hdd (hfit.room hR), X.ts hw2⟩
    ⟨zWd_blind, fun U hU hW => ⟨rfl, zPre X hP hS U hU hW⟩⟩ rfl rfl (hl.1.trans rfl) rfl (lv_room hrest) hd (hfit.cells hR)
  exact zgo hrun hS (fun H1 locs1 hP1 hS1 => kk p l e R s m args below meth c0 Q H1 locs1 ls X hR hret hP1 hS1 hl)
set_option maxHeartbeats 1000000 in
/-- a static method of a nest mate -/
theorem zi_statN {Y' : zY} {host : String} (As : List Value) {v : Option Value} {S' : zS} {M' : zH} (hC : zC E Y' As S M (v, S', M')) (hd : decode (yB Y) pc = .ok (.invokestatic i, 3)) (hw0 : Cond.code (yN Y') (yB Y') (yL Y') (yR Y') ∈ zTB) (hw1 : Cond.methodLinkNest (yN Y).cls i (yN Y') host ∈ zNest) (hw2 : Cond.static (yN Y') ∈ zTB) (hw4 : Cond.initialized (yN Y').cls ∈ zTB)
    (hdd : (yN Y').cls ≠ "java/lang/invoke/MethodHandle" ∧ (yN Y').cls ≠ "java/lang/invoke/VarHandle" ∧ (parseMethodDescriptor (yN Y').desc).map (fun d => d.parameters.length) = some As.length) (hfit : zFit Y Y' k n) (hrest : (sk.map fun v => v.category).sum ≤ 8)
    (kk : zG E Y t (pc + 3) lo (v.toList ++ sk) S' M' (k + yC Y') (n + yS Y')) : zG E Y t pc lo (As.reverse ++ sk) S M k n := by
  intro p l e R s m args below meth c0 Q H locs ls X hR hret hP hS hl
  have hrun := va_runSN (p := p) (l := l) (e := e) (R := R) (s := s) (m := m) (args := args) (below := below) (meth := meth) (c := c0) (H := H) (locs := locs) (cells := k) (slots := n) (g := F0 m pc ls (As.reverse ++ sk)) (As := As) (rest := sk) X.1 (hC l) ⟨va_cnB (R := R) (bytes := yB Y') (maxL := yL Y') (ret := yR Y') As.length X.1.2.2.2.2 (zws_good hw0) rfl rfl rfl (X.2.2.2.2.1.2.1 _ hw1) (X.ts hw4) hdd (hfit.room hR), X.ts hw2, trivial⟩
    ⟨zWd_blind, fun U hU hW => ⟨rfl, zPre X hP hS U hU hW⟩⟩ rfl rfl (hl.1.trans rfl) rfl (lv_room hrest) hd (hfit.cells hR)
  exact zgo hrun hS (fun H1 locs1 hP1 hS1 => kk p l e R s m args below meth c0 Q H1 locs1 ls X hR hret hP1 hS1 hl)
set_option maxHeartbeats 1000000 in
/-- a constructor -/
theorem zi_init {Y' : zY} {b : Nat} (As : List Value) {S' : zS} {M' : zH} (hC : zC E Y' (.ref b :: As) S M (none, S', M')) (hd : decode (yB Y) pc = .ok (.invokespecial i, 3)) (hrt : yR Y' = none) (hnm : (yN Y').name = "<init>") (hw0 : Cond.code (yN Y') (yB Y') (yL Y') (yR Y') ∈ zTB) (hw1 : Cond.methodLink (yN Y).cls i (yN Y') ∈ zTB) (hw2 : Cond.instanceMethod (yN Y') ∈ zTB) (hw4 : Cond.initialized (yN Y').cls ∈ zTB)
    (hdd : (yN Y').cls ≠ "java/lang/invoke/MethodHandle" ∧ (yN Y').cls ≠ "java/lang/invoke/VarHandle" ∧ (parseMethodDescriptor (yN Y').desc).map (fun d => d.parameters.length) = some As.length) (hfit : zFit Y Y' k n) (hrest : (sk.map fun v => v.category).sum ≤ 8)
    (kk : zG E Y t (pc + 3) lo sk S' M' (k + yC Y') (n + yS Y')) : zG E Y t pc lo (As.reverse ++ .ref b :: sk) S M k n := by
  intro p l e R s m args below meth c0 Q H locs ls X hR hret hP hS hl
  have hrun := va_runI (p := p) (l := l) (e := e) (R := R) (s := s) (m := m) (args := args) (below := below) (meth := meth) (c := c0) (H := H) (locs := locs) (cells := k) (slots := n) (g := F0 m pc ls (As.reverse ++ .ref b :: sk)) (As := As) (rest := sk) (b := b) X.1 (hC l) ⟨callB_of (R := R) (bytes := yB Y') (maxL := yL Y') (ret := none) (ws' := zTB) As.length X.1.2.2.2.2 (zws_good hw0) (by rw [← hrt]; rfl) rfl rfl (X.ts hw4) (X.ts hw1) hdd (hfit.room hR), hnm, X.ts hw2⟩
    ⟨zWd_blind, fun U hU hW => ⟨rfl, zPre X hP hS U hU hW⟩⟩ rfl rfl (hl.1.trans rfl) rfl (lv_room hrest) hd (hfit.cells hR)
  exact zgo (t' := (none, S', M')) hrun hS (fun H1 locs1 hP1 hS1 => kk p l e R s m args below meth c0 Q H1 locs1 ls X hR hret hP1 hS1 hl)
set_option maxHeartbeats 1000000 in
theorem zi_initN {Y' : zY} {b : Nat} {host : String} (As : List Value) {S' : zS} {M' : zH} (hC : zC E Y' (.ref b :: As) S M (none, S', M')) (hd : decode (yB Y) pc = .ok (.invokespecial i, 3)) (hrt : yR Y' = none) (hnm : (yN Y').name = "<init>") (hw0 : Cond.code (yN Y') (yB Y') (yL Y') (yR Y') ∈ zTB) (hw1 : Cond.methodLinkNest (yN Y).cls i (yN Y') host ∈ zNest) (hw2 : Cond.instanceMethod (yN Y') ∈ zTB) (hw4 : Cond.initialized (yN Y').cls ∈ zTB)
    (hdd : (yN Y').cls ≠ "java/lang/invoke/MethodHandle" ∧ (yN Y').cls ≠ "java/lang/invoke/VarHandle" ∧ (parseMethodDescriptor (yN Y').desc).map (fun d => d.parameters.length) = some As.length) (hfit : zFit Y Y' k n) (hrest : (sk.map fun v => v.category).sum ≤ 8)
    (kk : zG E Y t (pc + 3) lo sk S' M' (k + yC Y') (n + yS Y')) : zG E Y t pc lo (As.reverse ++ .ref b :: sk) S M k n := by
  intro p l e R s m args below meth c0 Q H locs ls X hR hret hP hS hl
  have hrun := va_runIN (p := p) (l := l) (e := e) (R := R) (s := s) (m := m) (args := args) (below := below) (meth := meth) (c := c0) (H := H) (locs := locs) (cells := k) (slots := n) (g := F0 m pc ls (As.reverse ++ .ref b :: sk)) (As := As) (rest := sk) (b := b) X.1 (hC l) ⟨va_cnB (R := R) (bytes := yB Y') (maxL := yL Y') (ret := none) (ws' := zTB) As.length X.1.2.2.2.2 (zws_good hw0) (by rw [← hrt]; rfl) rfl rfl (X.2.2.2.2.1.2.1 _ hw1) (X.ts hw4) hdd (hfit.room hR), hnm, X.ts hw2⟩
    ⟨zWd_blind, fun U hU hW => ⟨rfl, zPre X hP hS U hU hW⟩⟩ rfl rfl (hl.1.trans rfl) rfl (lv_room hrest) hd (hfit.cells hR)
  exact zgo (t' := (none, S', M')) hrun hS (fun H1 locs1 hP1 hS1 => kk p l e R s m args below meth c0 Q H1 locs1 ls X hR hret hP1 hS1 hl)
end
