/-! THE CORE: an abstract machine over a heap of functions; a judgement zG that hides the machine's own state, and a contract zC. -/
abbrev zH : Type := (Nat → Nat → Int32) × (Nat → Nat → Int64) × (Nat → Nat → Option Nat)
def mI (M : zH) : Nat → Nat → Int32 := M.1
def mJ (M : zH) : Nat → Nat → Int64 := M.2.1
def mR (M : zH) : Nat → Nat → Option Nat := M.2.2
/-- the shape: addresses, kind of each, length of each, fields that are references, how many cells the heap has -/
abbrev zS : Type := List Nat × (Nat → Nat) × (Nat → Nat) × (Nat → Nat → Option Nat) × Nat
def sL (S : zS) : List Nat := S.1
def sK (S : zS) : Nat → Nat := S.2.1
def sN (S : zS) : Nat → Nat := S.2.2.1
def sF (S : zS) : Nat → Nat → Option Nat := S.2.2.2.1
def sZ (S : zS) : Nat := S.2.2.2.2
def setI (M : zH) (a i : Nat) (v : Int32) : zH := (fun b j => if b = a ∧ j = i then v else mI M b j, mJ M, mR M)
def setJ (M : zH) (a i : Nat) (v : Int64) : zH := (mI M, fun b j => if b = a ∧ j = i then v else mJ M b j, mR M)
def setR (M : zH) (a i : Nat) (v : Option Nat) : zH := (mI M, mJ M, fun b j => if b = a ∧ j = i then v else mR M b j)
def setF (S : zS) (a i : Nat) (v : Option Nat) : zS := (sL S, sK S, sN S, fun b j => if b = a ∧ j = i then v else sF S b j, sZ S)
def zval (S : zS) (M : zH) (a j t : Nat) : Value := if t = 0 then .int (mI M a j) else if t = 1 then .long (mJ M a j) else va_rf (sF S a j)
def zfs (S : zS) (M : zH) (a c : Nat) : List Value := (List.range (zFK c).length).map (fun j => zval S M a j ((zFK c).getD j 0))
def zenc (cy : Nat → ClassId) (S : zS) (M : zH) : Nat → va_E := fun a =>
  if sK S a < 12 then .inr (sK S a, zfs S M a (sK S a))
  else if sK S a < 15 then .inl (cy (sK S a), sN S a, .inl (mI M a))
  else if sK S a = 15 then .inl (cy 15, sN S a, .inr (.inl (mJ M a)))
  else .inl (cy (sK S a), sN S a, .inr (.inr (.inr (.inr (mR M a)))))
theorem zfs_get {S : zS} {M : zH} {a c k t : Nat} (h : (zFK c)[k]? = some t) : (zfs S M a c)[k]? = some (zval S M a k t) := by
  have hk := (List.getElem?_eq_some_iff.mp h).1
  have h2 := (List.getElem?_eq_some_iff.mp h).2
  simp [zfs, hk, h2]
theorem zfs_len {S : zS} {M : zH} {a c : Nat} : (zfs S M a c).length = (zFK c).length := by simp [zfs]
theorem zfs_set {S S' : zS} {M M' : zH} {a c k t : Nat} (h : (zFK c)[k]? = some t) (ho : ∀ j, j ≠ k → zval S' M' a j ((zFK c).getD j 0) = zval S M a j ((zFK c).getD j 0)) : (zfs S M a c).set k (zval S' M' a k t) = zfs S' M' a c := by
  have hk := (List.getElem?_eq_some_iff.mp h).1
  apply List.ext_getElem?
  intro j
  by_cases hj : j = k
  · subst hj
    rw [List.getElem?_set_self (by rw [zfs_len]; exact hk), zfs_get h]
  · rw [List.getElem?_set_ne (Ne.symm hj)]
    simp only [zfs, List.getElem?_map]
    cases hr : (List.range (zFK c).length)[j]? with
    | none => rfl
    | some q =>
      have hq : q = j := by
        have := List.getElem?_eq_some_iff.mp hr
        obtain ⟨h1, h2⟩ := this
        simp at h2
        exact h2.symm
      subst hq
      simp only [Option.map_some, Option.some.injEq]
      exact (ho q hj).symm
theorem zfs_congr {S S' : zS} {M M' : zH} {a c : Nat} (h : ∀ j t, zval S' M' a j t = zval S M a j t) : zfs S' M' a c = zfs S M a c := by
  unfold zfs
  exact List.map_congr_left (fun j _ => h j _)
/-- setting a number of a field -/
theorem zenc_fI (cy : Nat → ClassId) (S : zS) (M : zH) {a c k : Nat} (hc : sK S a = c) (h12 : c < 12) (hk : (zFK c)[k]? = some 0) (v : Int32) (b : Nat) : va_up (zenc cy S M) a (.inr (c, (zfs S M a c).set k (.int v))) b = zenc cy S (setI M a k v) b := by
  by_cases hb : b = a
  · subst hb
    rw [va_up_self]
    unfold zenc
    rw [hc, if_pos h12]
    have := zfs_set (S := S) (S' := S) (M := M) (M' := setI M b k v) (a := b) hk (fun j hj => by simp [zval, setI, mI, mJ, hj])
    rw [← this]
    simp [zval, setI, mI]
  · rw [va_up_ne _ _ hb]
    unfold zenc
    rw [zfs_congr (S' := S) (M' := setI M a k v) (S := S) (M := M) (a := b) (fun j t => by simp [zval, setI, mI, mJ, hb])]
    have e1 : mI (setI M a k v) b = mI M b := by funext j; simp [setI, mI, hb]
    rw [e1]
    rfl
theorem zenc_fJ (cy : Nat → ClassId) (S : zS) (M : zH) {a c k : Nat} (hc : sK S a = c) (h12 : c < 12) (hk : (zFK c)[k]? = some 1) (v : Int64) (b : Nat) : va_up (zenc cy S M) a (.inr (c, (zfs S M a c).set k (.long v))) b = zenc cy S (setJ M a k v) b := by
  by_cases hb : b = a
  · subst hb
    rw [va_up_self]
    unfold zenc
    rw [hc, if_pos h12]
    have := zfs_set (S := S) (S' := S) (M := M) (M' := setJ M b k v) (a := b) hk (fun j hj => by simp [zval, setJ, mI, mJ, hj])
    rw [← this]
    simp [zval, setJ, mJ]
  · rw [va_up_ne _ _ hb]
    unfold zenc
    rw [zfs_congr (S' := S) (M' := setJ M a k v) (S := S) (M := M) (a := b) (fun j t => by simp [zval, setJ, mI, mJ, hb])]
    have e1 : mJ (setJ M a k v) b = mJ M b := by funext j; simp [setJ, mJ, hb]
    rw [e1]
    rfl
theorem zenc_fR (cy : Nat → ClassId) (S : zS) (M : zH) {a c k : Nat} (hc : sK S a = c) (h12 : c < 12) (hk : (zFK c)[k]? = some 2) (v : Option Nat) (b : Nat) : va_up (zenc cy S M) a (.inr (c, (zfs S M a c).set k (va_rf v))) b = zenc cy (setF S a k v) M b := by
  by_cases hb : b = a
  · subst hb
    rw [va_up_self]
    unfold zenc
    rw [show sK (setF S b k v) = sK S from rfl, hc, if_pos h12]
    have := zfs_set (S := S) (S' := setF S b k v) (M := M) (M' := M) (a := b) hk (fun j hj => by simp [zval, setF, sF, hj])
    rw [← this]
    simp [zval, setF, sF]
  · rw [va_up_ne _ _ hb]
    unfold zenc
    rw [zfs_congr (S' := setF S a k v) (M' := M) (S := S) (M := M) (a := b) (fun j t => by simp [zval, setF, sF, hb])]
    rfl
theorem zenc_aI (cy : Nat → ClassId) (S : zS) (M : zH) {a c n i : Nat} (hc : sK S a = c) (hn : sN S a = n) (h12 : 12 ≤ c) (h15 : c < 15) (v : Int32) (b : Nat) : va_up (zenc cy S M) a (.inl (cy c, n, .inl (upd (mI M a) i v))) b = zenc cy S (setI M a i v) b := by
  by_cases hb : b = a
  · subst hb
    rw [va_up_self]
    unfold zenc
    rw [hc, if_neg (by omega), if_pos h15, hn]
    have e1 : mI (setI M b i v) b = upd (mI M b) i v := by funext j; simp [setI, mI, upd]
    rw [e1]
  · rw [va_up_ne _ _ hb]
    unfold zenc
    rw [zfs_congr (S' := S) (M' := setI M a i v) (S := S) (M := M) (a := b) (fun j t => by simp [zval, setI, mI, mJ, hb])]
    have e1 : mI (setI M a i v) b = mI M b := by funext j; simp [setI, mI, hb]
    rw [e1]
    rfl
theorem zenc_aJ (cy : Nat → ClassId) (S : zS) (M : zH) {a n i : Nat} (hc : sK S a = 15) (hn : sN S a = n) (v : Int64) (b : Nat) : va_up (zenc cy S M) a (.inl (cy 15, n, .inr (.inl (vp_updL (mJ M a) i v)))) b = zenc cy S (setJ M a i v) b := by
  by_cases hb : b = a
  · subst hb
    rw [va_up_self]
    unfold zenc
    rw [hc, if_neg (by omega), if_neg (by omega), if_pos rfl, hn]
    have e1 : mJ (setJ M b i v) b = vp_updL (mJ M b) i v := by funext j; simp [setJ, mJ, vp_updL]
    rw [e1]
  · rw [va_up_ne _ _ hb]
    unfold zenc
    rw [zfs_congr (S' := S) (M' := setJ M a i v) (S := S) (M := M) (a := b) (fun j t => by simp [zval, setJ, mI, mJ, hb])]
    have e1 : mJ (setJ M a i v) b = mJ M b := by funext j; simp [setJ, mJ, hb]
    rw [e1]
    rfl
theorem zenc_aR (cy : Nat → ClassId) (S : zS) (M : zH) {a c n i : Nat} (hc : sK S a = c) (hn : sN S a = n) (h16 : 16 ≤ c) (v : Option Nat) (b : Nat) : va_up (zenc cy S M) a (.inl (cy c, n, .inr (.inr (.inr (.inr (va_up (mR M a) i v)))))) b = zenc cy S (setR M a i v) b := by
  by_cases hb : b = a
  · subst hb
    rw [va_up_self]
    unfold zenc
    rw [hc, if_neg (by omega), if_neg (by omega), if_neg (by omega), hn]
    have e1 : mR (setR M b i v) b = va_up (mR M b) i v := by funext j; simp [setR, mR, va_up]
    rw [e1]
  · rw [va_up_ne _ _ hb]
    unfold zenc
    rw [zfs_congr (S' := S) (M' := setR M a i v) (S := S) (M := M) (a := b) (fun j t => by simp [zval, setR, mI, mJ, hb])]
    have e1 : mR (setR M a i v) b = mR M b := by funext j; simp [setR, mR, hb]
    rw [e1]
    rfl
/-! what is read only: statics, arrays, objects and fields that were there before -/
def eT (E : zE) : List (ClassId × FieldType) := [(eY E 12, .int), (eY E 13, .boolean), (eY E 14, .byte), (eY E 15, .long), (eY E 16, .object zT16), (eY E 17, .object zT17)]
def zRo (E : zE) (U : State) (H : Heap) : Prop :=
  (∀ q ∈ eRZ E, va_Z q.1 q.2.1 q.2.2.1 q.2.2.2 (eA E) U H) ∧ (∀ q ∈ eRT E, va_T q.1 q.2.1 q.2.2.1 q.2.2.2 (eA E) U H) ∧ (∀ q ∈ eRO E, va_O q.1 q.2 (eA E) U H) ∧ (∀ q ∈ eRF E, va_OF q.1 q.2.1 q.2.2.1 q.2.2.2.1 q.2.2.2.2 (eA E) U H)
def zKn (E : zE) (U : State) : Prop := va_K (eD E) zCL (eT E) U ∧ (∀ w ∈ zNest, va_Nw w U) ∧ (∀ q ∈ eRR E, vk_R q.1 q.2.1 q.2.2.1 q.2.2.2 U) ∧ va_AO zT16 U ∧ va_AO zT17 U ∧ va_Nw (.castable "[I" "java/lang/Cloneable") U
theorem zRo.moved {E : zE} {u U : State} {H : Heap} (hvm : u.vm.Alike U.vm) (h : zRo E u H) : zRo E U H :=
  ⟨fun q hq => va_Z.moved hvm (h.1 q hq), fun q hq => va_T.moved hvm (h.2.1 q hq), fun q hq => va_O.moved hvm (h.2.2.1 q hq), fun q hq => va_OF.moved hvm (h.2.2.2 q hq)⟩
theorem zRo.kept {E : zE} {U : State} {H H1 : Heap} (h : zRo E U H) (hq : ∀ a : Nat, a < H.size → ¬ eA E a → H1[a]? = H[a]?) : zRo E U H1 :=
  ⟨fun q h1 => (h.1 q h1).kept hq, fun q h1 => (h.2.1 q h1).kept hq, fun q h1 => (h.2.2.1 q h1).kept hq, fun q h1 => (h.2.2.2 q h1).kept hq⟩
theorem zNest_on : ∀ w ∈ zNest, w.onTables = true := by decide +kernel
theorem zKn.warm {E : zE} {s U : State} (hW : s.WarmedH U.vm) (h : zKn E s) : zKn E U :=
  ⟨va_K.moved hW.alike h.1, fun w hw => by
    have h1 := h.2.1 w hw
    obtain ⟨a, i, x, hh, rfl⟩ := zNest_form w hw
    exact va_Nw.warmM hW h1, fun q hq => (h.2.2.1 q hq).warm hW, va_AO.moved hW.alike h.2.2.2.1, va_AO.moved hW.alike h.2.2.2.2.1, va_Nw.warmC hW h.2.2.2.2.2⟩
theorem zKn.same {E : zE} {u U : State} (hv : u.vm = U.vm) (h : zKn E u) : zKn E U :=
  ⟨va_K.moved (by rw [hv]; exact Vm.Alike.refl _) h.1, fun w hw => va_Nw.same (zNest_on w hw) hv (h.2.1 w hw), fun q hq => vk_R.same hv.symm (h.2.2.1 q hq), va_AO.moved (by rw [hv]; exact Vm.Alike.refl _) h.2.2.2.1, va_AO.moved (by rw [hv]; exact Vm.Alike.refl _) h.2.2.2.2.1, va_Nw.same rfl hv h.2.2.2.2.2⟩
