/-! ROWS over the heap -/
theorem zpool_get {E : zE} {S : zS} {M : zH} {a : Nat} (h : a ∈ sL S) : ∃ j : Nat, (zpool E S M)[j]? = some (a, zenc (eY E) S M a) := by
  have h1 := va_pl_get (X := []) (f := zenc (eY E) S M) h
  simpa using h1
theorem zpool_set {E : zE} {S S' : zS} {M M' : zH} {a j : Nat} {e : va_E} (hD : va_D (eA E) (zpool E S M)) (h : a ∈ sL S) (hj : (zpool E S M)[j]? = some (a, zenc (eY E) S M a)) (hL : sL S' = sL S) (he : ∀ b, va_up (zenc (eY E) S M) a e b = zenc (eY E) S' M' b) : (zpool E S M).set j (a, e) = zpool E S' M' := by
  have h1 := va_pl_set (X := []) (L := sL S) (f := zenc (eY E) S M) (e := e) (by simpa using hD) h (by simpa using hj)
  simp only [List.nil_append] at h1
  rw [show zpool E S M = va_pl (sL S) (zenc (eY E) S M) from rfl, h1, show zpool E S' M' = va_pl (sL S') (zenc (eY E) S' M') from rfl, hL]
  exact va_pl_congr he
theorem zenc_ob {cy : Nat → ClassId} {S : zS} {M : zH} {a c : Nat} (hk : sK S a = c) (hc : c < 12) : zenc cy S M a = .inr (c, zfs S M a c) := by unfold zenc; rw [hk, if_pos hc]
theorem zenc_ai {cy : Nat → ClassId} {S : zS} {M : zH} {a c : Nat} (hk : sK S a = c) (h1 : 12 ≤ c) (h2 : c < 15) : zenc cy S M a = .inl (cy c, sN S a, .inl (mI M a)) := by unfold zenc; rw [hk, if_neg (by omega), if_pos h2]
theorem zenc_aj {cy : Nat → ClassId} {S : zS} {M : zH} {a : Nat} (hk : sK S a = 15) : zenc cy S M a = .inl (cy 15, sN S a, .inr (.inl (mJ M a))) := by unfold zenc; rw [hk, if_neg (by omega), if_neg (by omega), if_pos rfl]
theorem zenc_ar {cy : Nat → ClassId} {S : zS} {M : zH} {a c : Nat} (hk : sK S a = c) (h1 : 16 ≤ c) : zenc cy S M a = .inl (cy c, sN S a, .inr (.inr (.inr (.inr (mR M a))))) := by unfold zenc; rw [hk, if_neg (by omega), if_neg (by omega), if_neg (by omega)]
/-- what the tables say of a kind of object -/
def zKd (c : Nat) (C : String) (T : u_T) (N : Nat) (ty : Nat → FieldType) : Prop := c < 12 ∧ zCL[c]? = some (C, T, N) ∧ (∀ w ∈ u_ws C T N, w ∈ zTB) ∧ (∀ k, k < N → parseFieldDescriptor (T k).2.2.1 = some (ty k)) ∧ (∀ a, a < N → ∀ b, b < N → a ≠ b → (T a).2.1 ≠ (T b).2.1) ∧ (zFK c).length = N
section
variable {E : zE} {Y : zY} {t : zTau} {pc : Nat} {lo : List (Nat × Value)} {sk : List Value} {S : zS} {M : zH} {k n : Nat}
variable {c N : Nat} {C : String} {T : u_T} {ty : Nat → FieldType} {a f i : Nat}
set_option maxHeartbeats 1000000 in
theorem zi_get {tt : Nat} (hK : zKd c C T N ty) (f : Nat) (hd : decode (yB Y) pc = .ok (.getfield i, 3)) (hk : sK S a = c) (hf : (zFK c)[f]? = some tt) (hw : Cond.fieldLink (yN Y).cls i (T f).1 (T f).2.1 (T f).2.2.1 ∈ zTB) (kk : zG E Y t (pc + 3) lo (zval S M a f tt :: sk) S M k n) : zG E Y t pc lo (.ref a :: sk) S M k n := by
  intro p l e R s m args below meth c0 Q H locs ls X hR hret hP hS hl
  obtain ⟨h12, hc, hin, hty, hnm, hlen⟩ := hK
  have hfN : f < N := by rw [← hlen]; exact (List.getElem?_eq_some_iff.mp hf).1
  have ha := hP.2.2.2 a (by rw [hk]; omega)
  obtain ⟨j, hj⟩ := zpool_get (E := E) (M := M) ha
  rw [zenc_ob hk h12] at hj
  exact va_get X.1.1 X.1.2.1 (fun w hw => X.ts hw) hin X.1.2.2.2.1 X.2.2.2.2.1.1 hP.1 j hj hc f hfN (X.ts hw) (fun _ h => h) (zfs_get hf) hd (kk p l e R s m args below meth c0 Q H locs ls X hR hret hP hS hl)
theorem zi_getI (hK : zKd c C T N ty) (f : Nat) (hd : decode (yB Y) pc = .ok (.getfield i, 3)) (hk : sK S a = c) (hf : (zFK c)[f]? = some 0) (hw : Cond.fieldLink (yN Y).cls i (T f).1 (T f).2.1 (T f).2.2.1 ∈ zTB) (kk : zG E Y t (pc + 3) lo (.int (mI M a f) :: sk) S M k n) : zG E Y t pc lo (.ref a :: sk) S M k n := zi_get hK f hd hk hf hw kk
theorem zi_getJ (hK : zKd c C T N ty) (f : Nat) (hd : decode (yB Y) pc = .ok (.getfield i, 3)) (hk : sK S a = c) (hf : (zFK c)[f]? = some 1) (hw : Cond.fieldLink (yN Y).cls i (T f).1 (T f).2.1 (T f).2.2.1 ∈ zTB) (kk : zG E Y t (pc + 3) lo (.long (mJ M a f) :: sk) S M k n) : zG E Y t pc lo (.ref a :: sk) S M k n := zi_get hK f hd hk hf hw kk
/-- a reference that is known -/
theorem zi_getR {b : Nat} (hK : zKd c C T N ty) (f : Nat) (hd : decode (yB Y) pc = .ok (.getfield i, 3)) (hk : sK S a = c) (hb : sF S a f = some b) (hf : (zFK c)[f]? = some 2) (hw : Cond.fieldLink (yN Y).cls i (T f).1 (T f).2.1 (T f).2.2.1 ∈ zTB) (kk : zG E Y t (pc + 3) lo (.ref b :: sk) S M k n) : zG E Y t pc lo (.ref a :: sk) S M k n :=
  zi_get hK f hd hk hf hw (by have h1 : zval S M a f 2 = .ref b := (by simp [zval, hb, va_rf]); rw [h1]; exact kk)
theorem zPic.put {S' : zS} {M' : zH} {H H1 : Heap} {e : va_E} (hP : zPic E S M H) (ha : a ∈ sL S) (he : va_at (eD E) zCL (a, e) H1) (z : H1.size = H.size) (oq : ∀ q : Nat, q ≠ a → H1[q]? = H[q]?) (hL : sL S' = sL S) (hZ : sZ S' = sZ S) (hKd : sK S' = sK S) (hu : ∀ b, va_up (zenc (eY E) S M) a e b = zenc (eY E) S' M' b) : zPic E S' M' H1 := by
  obtain ⟨j, hj⟩ := zpool_get (E := E) (M := M) ha
  have h1 := hP.1.set hP.2.1 hj he oq
  have h2 := va_D.set (e := e) hP.2.1 hj
  rw [zpool_set hP.2.1 ha hj hL hu] at h1 h2
  exact ⟨h1, h2, by rw [z, hP.2.2.1, hZ], by rw [hKd, hL]; exact hP.2.2.2⟩
theorem zPic.at {H : Heap} (hP : zPic E S M H) (ha : a ∈ sL S) : va_at (eD E) zCL (a, zenc (eY E) S M a) H := by
  obtain ⟨j, hj⟩ := zpool_get (E := E) (M := M) ha
  exact hP.1 j _ hj
theorem zPic.A {H : Heap} (hP : zPic E S M H) (ha : a ∈ sL S) : eA E a := by
  obtain ⟨j, hj⟩ := zpool_get (E := E) (M := M) ha
  exact hP.2.1.2 j _ hj
set_option maxHeartbeats 1000000 in
theorem zi_put {v : Value} {S' : zS} {M' : zH} (hK : zKd c C T N ty) (f : Nat) (hd : decode (yB Y) pc = .ok (.putfield i, 3)) (hk : sK S a = c) (hf : f < N) (hfin : (T f).2.2.2 = false) (hn : narrow (ty f) v = v) (hfit : fits (ty f) v = true) (hw : Cond.fieldLink (yN Y).cls i (T f).1 (T f).2.1 (T f).2.2.1 ∈ zTB)
    (hL : sL S' = sL S) (hZ : sZ S' = sZ S) (hKd : sK S' = sK S) (hu : ∀ b, va_up (zenc (eY E) S M) a (.inr (c, (zfs S M a c).set f v)) b = zenc (eY E) S' M' b) (kk : zG E Y t (pc + 3) lo sk S' M' k n) : zG E Y t pc lo (v :: .ref a :: sk) S M k n := by
  intro p l e R s m args below meth c0 Q H locs ls X hR hret hP hS hl
  obtain ⟨h12, hc, hin, hty, hnm, hlen⟩ := hK
  have hts : ∀ w ∈ zTB, w.before args s = true := fun w hw => X.ts hw
  have ha := hP.2.2.2 a (by rw [hk]; omega)
  have hat := hP.at ha
  rw [zenc_ob hk h12] at hat
  have hap := va_apart (own := (yN Y).cls) hts hin ty hty hnm X.2.2.2.2.1.1 hc
  obtain ⟨r, h1, cell, q1, q2, q3, q4⟩ := hat
  have hr : r = (C, T, N) := Option.some.inj (h1.symm.trans hc)
  subst hr
  obtain ⟨hSl, hfc, kC, hkC, hkind⟩ := X.2.2.2.2.1.1.1 c _ hc
  obtain ⟨cf, kf, fi, fd, hi, hsl⟩ := hSl f hf
  have hlay := hts _ (hin _ (u_in_lay hf))
  unfold u_lay at hlay
  rw [if_neg (by rw [hfin]; decide)] at hlay
  have hst := (u_facts hfc hkC (u_lays hts hin hf) hi).1
  have h6 := u_store hfc hkC hkind hlay hi (hty f hf) hn hfit
  refine W.putK X.1.1 X.1.2.1 (f := fd) ⟨X.1.2.2.2.1, X.ts hw, ⟨_, _, _, hi⟩, hst⟩ (by rw [q2]; exact h6) q1 q3 (by rw [hsl]; exact k2_hasslot (q4 f hf)) rfl rfl hd fun H' e1 e2 e3 => ?_
  rw [hsl] at e1 ⊢
  exact kk p l e R s m args below meth c0 Q H' _ ls X hR hret (hP.put (e := .inr (c, (zfs S M a c).set f v)) ha ⟨_, hc, t_OB.to (V := updV (vp_V (zfs S M a c)) f v) ⟨_, e1, q2, q3, t_set q4 hap hf v⟩ (fun j _ => vp_updV_set (by rw [zfs_len, hlen]; exact hf) v j)⟩ e2 e3 hL hZ hKd hu) (hS.put e2 e3 (hP.A ha)) hl
theorem zi_putI {x : Int32} (hK : zKd c C T N ty) (f : Nat) (hd : decode (yB Y) pc = .ok (.putfield i, 3)) (hk : sK S a = c) (hf : (zFK c)[f]? = some 0) (hfin : (T f).2.2.2 = false) (hn : narrow (ty f) (.int x) = .int x) (hfit : fits (ty f) (.int x) = true) (hw : Cond.fieldLink (yN Y).cls i (T f).1 (T f).2.1 (T f).2.2.1 ∈ zTB) (kk : zG E Y t (pc + 3) lo sk S (setI M a f x) k n) : zG E Y t pc lo (.int x :: .ref a :: sk) S M k n :=
  zi_put hK f hd hk (by rw [← hK.2.2.2.2.2]; exact (List.getElem?_eq_some_iff.mp hf).1) hfin hn hfit hw rfl rfl rfl (zenc_fI (eY E) S M hk hK.1 hf x) kk
theorem zi_putJ {x : Int64} (hK : zKd c C T N ty) (f : Nat) (hd : decode (yB Y) pc = .ok (.putfield i, 3)) (hk : sK S a = c) (hf : (zFK c)[f]? = some 1) (hfin : (T f).2.2.2 = false) (hn : narrow (ty f) (.long x) = .long x) (hfit : fits (ty f) (.long x) = true) (hw : Cond.fieldLink (yN Y).cls i (T f).1 (T f).2.1 (T f).2.2.1 ∈ zTB) (kk : zG E Y t (pc + 3) lo sk S (setJ M a f x) k n) : zG E Y t pc lo (.long x :: .ref a :: sk) S M k n :=
  zi_put hK f hd hk (by rw [← hK.2.2.2.2.2]; exact (List.getElem?_eq_some_iff.mp hf).1) hfin hn hfit hw rfl rfl rfl (zenc_fJ (eY E) S M hk hK.1 hf x) kk
set_option maxHeartbeats 1000000 in
/-- a final field, in its constructor -/
theorem zi_putR {x : Nat} (hK : zKd c C T N ty) (f : Nat) (hd : decode (yB Y) pc = .ok (.putfield i, 3)) (hk : sK S a = c) (hff : (zFK c)[f]? = some 2) (hfin : (T f).2.2.2 = true) (hini : (yN Y).name = "<init>") (hdecl : (T f).1 = (yN Y).cls) (hn : narrow (ty f) (.ref x) = .ref x) (hfit : fits (ty f) (.ref x) = true) (hw : Cond.fieldLink (yN Y).cls i (T f).1 (T f).2.1 (T f).2.2.1 ∈ zTB)
    (kk : zG E Y t (pc + 3) lo sk (setF S a f (some x)) M k n) : zG E Y t pc lo (.ref x :: .ref a :: sk) S M k n := by
  intro p l e R s m args below meth c0 Q H locs ls X hR hret hP hS hl
  have hu := zenc_fR (eY E) S M hk hK.1 hff (some x)
  obtain ⟨h12, hc, hin, hty, hnm, hlen⟩ := hK
  have hf : f < N := by rw [← hlen]; exact (List.getElem?_eq_some_iff.mp hff).1
  have hts : ∀ w ∈ zTB, w.before args s = true := fun w hw => X.ts hw
  have ha := hP.2.2.2 a (by rw [hk]; omega)
  have hat := hP.at ha
  rw [zenc_ob hk h12] at hat
  have hap := va_apart (own := (yN Y).cls) hts hin ty hty hnm X.2.2.2.2.1.1 hc
  obtain ⟨r, h1, cell, q1, q2, q3, q4⟩ := hat
  have hr : r = (C, T, N) := Option.some.inj (h1.symm.trans hc)
  subst hr
  obtain ⟨hSl, hfc, kC, hkC, hkind⟩ := X.2.2.2.2.1.1.1 c _ hc
  obtain ⟨cf, kf, fi, fd, hi, hsl⟩ := hSl f hf
  have hlay := hts _ (hin _ (u_in_lay hf))
  unfold u_lay at hlay
  rw [if_pos hfin] at hlay
  have hst := (u_facts hfc hkC (u_lays hts hin hf) hi).1
  have hown := X.1.2.2.2.1
  have hcf : m.cls = cf := by
    obtain ⟨_, _, c', _, _, _, -, -, hf', -, -, -, hown2, -⟩ := Cond.laysFinal_spec hlay
    have e1 : c' = cf := by have := hi.symm.trans hf'; simp at this; exact this.1.symm
    rw [hdecl] at hown2
    rw [← e1]; exact Option.some.inj (hown.symm.trans hown2)
  have h6 := u_fits hfc hkC hkind (Or.inr hlay) hi (hty f hf) hn hfit
  refine W.putFinK X.1.1 X.1.2.1 hown (X.ts hw) hi hst hcf (by rw [X.2.2.2.1]; exact hini) (by rw [q2]; exact h6) q1 q3 (by rw [hsl]; exact k2_hasslot (q4 f hf)) rfl rfl hd fun H' e1 e2 e3 => ?_
  rw [hsl] at e1 ⊢
  exact kk p l e R s m args below meth c0 Q H' _ ls X hR hret (hP.put (e := .inr (c, (zfs S M a c).set f (.ref x))) ha ⟨_, hc, t_OB.to (V := updV (vp_V (zfs S M a c)) f (.ref x)) ⟨_, e1, q2, q3, t_set q4 hap hf (.ref x)⟩ (fun j _ => vp_updV_set (by rw [zfs_len, hlen]; exact hf) (.ref x) j)⟩ e2 e3 rfl rfl rfl hu) (hS.put e2 e3 (hP.A ha)) hl
end
