/-! PRIMITIVES that the extracted functions are made of, and rows in their terms -/
def bI (b : Bool) : Int32 := if b = true then 1 else 0
def zfix {σ τ : Type} (F : (σ → Option τ) → σ → Option τ) : Nat → σ → Option τ
  | 0 => fun _ => none
  | n + 1 => F (zfix F n)
def zgI (S : zS) (M : zH) (a c f : Nat) : Option Int32 := if sK S a = c then some (mI M a f) else none
def zgJ (S : zS) (M : zH) (a c f : Nat) : Option Int64 := if sK S a = c then some (mJ M a f) else none
def zgR (S : zS) (a c f : Nat) : Option Nat := if sK S a = c then sF S a f else none
def zpI (S : zS) (M : zH) (a c f : Nat) (x : Int32) : Option zH := if sK S a = c then some (setI M a f x) else none
def zpZ (S : zS) (M : zH) (a c f : Nat) (x : Int32) : Option zH := if sK S a = c ∧ (x = 0 ∨ x = 1) then some (setI M a f x) else none
def zpJ (S : zS) (M : zH) (a c f : Nat) (x : Int64) : Option zH := if sK S a = c then some (setJ M a f x) else none
def zpR (S : zS) (a c f : Nat) (x : Nat) : Option zS := if sK S a = c then some (setF S a f (some x)) else none
def zldI (S : zS) (M : zH) (a : Nat) (i : Int32) : Option Int32 := if sK S a = 12 ∧ ¬ (i < 0 ∨ sN S a ≤ i.toNatClampNeg) then some (mI M a i.toNatClampNeg) else none
def zldZ (S : zS) (M : zH) (a : Nat) (i : Int32) : Option Int32 := if sK S a = 13 ∧ ¬ (i < 0 ∨ sN S a ≤ i.toNatClampNeg) then some (mI M a i.toNatClampNeg) else none
def zldB (S : zS) (M : zH) (a : Nat) (i : Int32) : Option Int32 := if sK S a = 14 ∧ ¬ (i < 0 ∨ sN S a ≤ i.toNatClampNeg) then some (mI M a i.toNatClampNeg) else none
def zldJ (S : zS) (M : zH) (a : Nat) (i : Int32) : Option Int64 := if sK S a = 15 ∧ ¬ (i < 0 ∨ sN S a ≤ i.toNatClampNeg) then some (mJ M a i.toNatClampNeg) else none
def zldR (S : zS) (M : zH) (c a : Nat) (i : Int32) : Option (Option Nat) := if sK S a = c ∧ ¬ (i < 0 ∨ sN S a ≤ i.toNatClampNeg) then some (mR M a i.toNatClampNeg) else none
def zstI (S : zS) (M : zH) (a : Nat) (i x : Int32) : Option zH := if sK S a = 12 ∧ ¬ (i < 0 ∨ sN S a ≤ i.toNatClampNeg) then some (setI M a i.toNatClampNeg x) else none
def zstZ (S : zS) (M : zH) (a : Nat) (i x : Int32) : Option zH := if sK S a = 13 ∧ ¬ (i < 0 ∨ sN S a ≤ i.toNatClampNeg) then some (setI M a i.toNatClampNeg (vp_nar .boolean x)) else none
def zstB (S : zS) (M : zH) (a : Nat) (i x : Int32) : Option zH := if sK S a = 14 ∧ ¬ (i < 0 ∨ sN S a ≤ i.toNatClampNeg) then some (setI M a i.toNatClampNeg (vp_nar .byte x)) else none
def zstJ (S : zS) (M : zH) (a : Nat) (i : Int32) (x : Int64) : Option zH := if sK S a = 15 ∧ ¬ (i < 0 ∨ sN S a ≤ i.toNatClampNeg) then some (setJ M a i.toNatClampNeg x) else none
def zstR (S : zS) (M : zH) (c cv a : Nat) (i : Int32) (x : Nat) : Option zH := if sK S a = c ∧ sK S x = cv ∧ ¬ (i < 0 ∨ sN S a ≤ i.toNatClampNeg) then some (setR M a i.toNatClampNeg (some x)) else none
/-- a reference or null into an array of texts -/
def zstQ (S : zS) (M : zH) (a : Nat) (i : Int32) (x : Option Nat) : Option zH := match x with
  | some x => zstR S M 16 9 a i x
  | none => if sK S a = 16 ∧ ¬ (i < 0 ∨ sN S a ≤ i.toNatClampNeg) then some (setR M a i.toNatClampNeg none) else none
def zlen (S : zS) (c a : Nat) : Option Int32 := if sK S a = c then some (nI (sN S a)) else none
def zdivI (x y : Int32) : Option Int32 := if y = 0 then none else some (x / y)
def zremI (x y : Int32) : Option Int32 := if y = 0 then none else some (x - x / y * y)
def zdivJ (x y : Int64) : Option Int64 := if y = 0 then none else some (x / y)
def zremJ (x y : Int64) : Option Int64 := if y = 0 then none else some (x - x / y * y)
/-- an int as a truth value -/
def zbl (x : Int32) : Option Bool := if x = 0 then some false else if x = 1 then some true else none
/-- a number of a static array -/
def zsta (i : Nat) (x : Int32) : Option Int32 := if ¬ (x < 0 ∨ (zSta i).length ≤ x.toNatClampNeg) then some ((zSta i).getD x.toNatClampNeg 0) else none
/-- a number of the script -/
def zscr (E : zE) (x : Int32) : Option Int32 := if ¬ (x < 0 ∨ eL E ≤ x.toNatClampNeg) then some (eX E x.toNatClampNeg) else none
theorem zbind {α β : Type} {o : Option α} {f : α → Option β} {r : β} (h : o.bind f = some r) : ∃ x, o = some x ∧ f x = some r := by
  cases o with
  | none => cases h
  | some x => exact ⟨x, rfl, h⟩
theorem zgI_s {S : zS} {M : zH} {a c f : Nat} {x : Int32} (h : zgI S M a c f = some x) : sK S a = c ∧ x = mI M a f := by unfold zgI at h; split at h <;> simp_all
theorem zgJ_s {S : zS} {M : zH} {a c f : Nat} {x : Int64} (h : zgJ S M a c f = some x) : sK S a = c ∧ x = mJ M a f := by unfold zgJ at h; split at h <;> simp_all
theorem zgR_s {S : zS} {a c f x : Nat} (h : zgR S a c f = some x) : sK S a = c ∧ sF S a f = some x := by unfold zgR at h; split at h <;> simp_all
theorem zpI_s {S : zS} {M M' : zH} {a c f : Nat} {x : Int32} (h : zpI S M a c f x = some M') : sK S a = c ∧ M' = setI M a f x := by unfold zpI at h; split at h <;> simp_all
theorem zpZ_s {S : zS} {M M' : zH} {a c f : Nat} {x : Int32} (h : zpZ S M a c f x = some M') : sK S a = c ∧ (x = 0 ∨ x = 1) ∧ M' = setI M a f x := by
  unfold zpZ at h
  split at h
  · rename_i hc; exact ⟨hc.1, hc.2, by simpa using h.symm⟩
  · cases h
theorem zpJ_s {S : zS} {M M' : zH} {a c f : Nat} {x : Int64} (h : zpJ S M a c f x = some M') : sK S a = c ∧ M' = setJ M a f x := by unfold zpJ at h; split at h <;> simp_all
theorem zpR_s {S S' : zS} {a c f x : Nat} (h : zpR S a c f x = some S') : sK S a = c ∧ S' = setF S a f (some x) := by unfold zpR at h; split at h <;> simp_all
section
variable {E : zE} {Y : zY} {t : zTau} {pc : Nat} {lo : List (Nat × Value)} {sk : List Value} {S : zS} {M : zH} {k n : Nat}
variable {c N : Nat} {C : String} {T : u_T} {ty : Nat → FieldType} {a i : Nat} {j : Int32}
theorem zo_pc (q : Nat) (hq : pc = q) (kk : zG E Y t q lo sk S M k n) : zG E Y t pc lo sk S M k n := hq ▸ kk
theorem zo_getI {x : Int32} (q : Nat) (hK : zKd c C T N ty) (f : Nat) (hd : decode (yB Y) pc = .ok (.getfield i, 3)) (e : zgI S M a c f = some x) (hf : (zFK c)[f]? = some 0) (hw : Cond.fieldLink (yN Y).cls i (T f).1 (T f).2.1 (T f).2.2.1 ∈ zTB) (hq : pc + 3 = q) (kk : zG E Y t q lo (.int x :: sk) S M k n) : zG E Y t pc lo (.ref a :: sk) S M k n := by
  subst hq
  obtain ⟨h1, rfl⟩ := zgI_s e
  exact zi_getI hK f hd h1 hf hw kk
theorem zo_getJ {x : Int64} (q : Nat) (hK : zKd c C T N ty) (f : Nat) (hd : decode (yB Y) pc = .ok (.getfield i, 3)) (e : zgJ S M a c f = some x) (hf : (zFK c)[f]? = some 1) (hw : Cond.fieldLink (yN Y).cls i (T f).1 (T f).2.1 (T f).2.2.1 ∈ zTB) (hq : pc + 3 = q) (kk : zG E Y t q lo (.long x :: sk) S M k n) : zG E Y t pc lo (.ref a :: sk) S M k n := by
  subst hq
  obtain ⟨h1, rfl⟩ := zgJ_s e
  exact zi_getJ hK f hd h1 hf hw kk
theorem zo_getR {x : Nat} (q : Nat) (hK : zKd c C T N ty) (f : Nat) (hd : decode (yB Y) pc = .ok (.getfield i, 3)) (e : zgR S a c f = some x) (hf : (zFK c)[f]? = some 2) (hw : Cond.fieldLink (yN Y).cls i (T f).1 (T f).2.1 (T f).2.2.1 ∈ zTB) (hq : pc + 3 = q) (kk : zG E Y t q lo (.ref x :: sk) S M k n) : zG E Y t pc lo (.ref a :: sk) S M k n := by
  subst hq
  obtain ⟨h1, h2⟩ := zgR_s e
  exact zi_getR hK f hd h1 h2 hf hw kk
theorem zo_putI {x : Int32} {M' : zH} (q : Nat) (hK : zKd c C T N ty) (f : Nat) (hd : decode (yB Y) pc = .ok (.putfield i, 3)) (e : zpI S M a c f x = some M') (hf : (zFK c)[f]? = some 0) (hfin : (T f).2.2.2 = false) (hty : ty f = .int) (hw : Cond.fieldLink (yN Y).cls i (T f).1 (T f).2.1 (T f).2.2.1 ∈ zTB) (hq : pc + 3 = q) (kk : zG E Y t q lo sk S M' k n) : zG E Y t pc lo (.int x :: .ref a :: sk) S M k n := by
  subst hq
  obtain ⟨h1, rfl⟩ := zpI_s e
  exact zi_putI hK f hd h1 hf hfin (by rw [hty]; rfl) (by rw [hty]; rfl) hw kk
theorem zo_putZ {x : Int32} {M' : zH} (q : Nat) (hK : zKd c C T N ty) (f : Nat) (hd : decode (yB Y) pc = .ok (.putfield i, 3)) (e : zpZ S M a c f x = some M') (hf : (zFK c)[f]? = some 0) (hfin : (T f).2.2.2 = false) (hty : ty f = .boolean) (hw : Cond.fieldLink (yN Y).cls i (T f).1 (T f).2.1 (T f).2.2.1 ∈ zTB) (hq : pc + 3 = q) (kk : zG E Y t q lo sk S M' k n) : zG E Y t pc lo (.int x :: .ref a :: sk) S M k n := by
  subst hq
  obtain ⟨h1, h2, rfl⟩ := zpZ_s e
  exact zi_putI hK f hd h1 hf hfin (by rw [hty]; rcases h2 with rfl | rfl <;> rfl) (by rw [hty]; rcases h2 with rfl | rfl <;> rfl) hw kk
theorem zo_putJ {x : Int64} {M' : zH} (q : Nat) (hK : zKd c C T N ty) (f : Nat) (hd : decode (yB Y) pc = .ok (.putfield i, 3)) (e : zpJ S M a c f x = some M') (hf : (zFK c)[f]? = some 1) (hfin : (T f).2.2.2 = false) (hty : ty f = .long) (hw : Cond.fieldLink (yN Y).cls i (T f).1 (T f).2.1 (T f).2.2.1 ∈ zTB) (hq : pc + 3 = q) (kk : zG E Y t q lo sk S M' k n) : zG E Y t pc lo (.long x :: .ref a :: sk) S M k n := by
  subst hq
  obtain ⟨h1, rfl⟩ := zpJ_s e
  exact zi_putJ hK f hd h1 hf hfin (by rw [hty]; rfl) (by rw [hty]; rfl) hw kk
theorem zo_putR {x : Nat} {S' : zS} (q : Nat) (hK : zKd c C T N ty) (f : Nat) (hd : decode (yB Y) pc = .ok (.putfield i, 3)) (e : zpR S a c f x = some S') (hf : (zFK c)[f]? = some 2) (hfin : (T f).2.2.2 = true) (hini : (yN Y).name = "<init>") (hdecl : (T f).1 = (yN Y).cls) (hty : narrow (ty f) (.ref x) = .ref x ∧ fits (ty f) (.ref x) = true) (hw : Cond.fieldLink (yN Y).cls i (T f).1 (T f).2.1 (T f).2.2.1 ∈ zTB) (hq : pc + 3 = q) (kk : zG E Y t q lo sk S' M k n) : zG E Y t pc lo (.ref x :: .ref a :: sk) S M k n := by
  subst hq
  obtain ⟨h1, rfl⟩ := zpR_s e
  exact zi_putR hK f hd h1 hf hfin hini hdecl hty.1 hty.2 hw kk
theorem zo_iald {x : Int32} (q : Nat) (hd : decode (yB Y) pc = .ok (.iaload, 1)) (e : zldI S M a j = some x) (hq : pc + 1 = q) (kk : zG E Y t q lo (.int x :: sk) S M k n) : zG E Y t pc lo (.int j :: .ref a :: sk) S M k n := by
  subst hq; unfold zldI at e; split at e
  · rename_i h; cases e; exact zi_iald hd h.1 h.2 kk
  · cases e
theorem zo_zald {x : Int32} (q : Nat) (hd : decode (yB Y) pc = .ok (.baload, 1)) (e : zldZ S M a j = some x) (hq : pc + 1 = q) (kk : zG E Y t q lo (.int x :: sk) S M k n) : zG E Y t pc lo (.int j :: .ref a :: sk) S M k n := by
  subst hq; unfold zldZ at e; split at e
  · rename_i h; cases e; exact zi_zald hd h.1 h.2 kk
  · cases e
theorem zo_bald {x : Int32} (q : Nat) (hd : decode (yB Y) pc = .ok (.baload, 1)) (e : zldB S M a j = some x) (hq : pc + 1 = q) (kk : zG E Y t q lo (.int x :: sk) S M k n) : zG E Y t pc lo (.int j :: .ref a :: sk) S M k n := by
  subst hq; unfold zldB at e; split at e
  · rename_i h; cases e; exact zi_bald hd h.1 h.2 kk
  · cases e
theorem zo_lald {x : Int64} (q : Nat) (hd : decode (yB Y) pc = .ok (.laload, 1)) (e : zldJ S M a j = some x) (hq : pc + 1 = q) (kk : zG E Y t q lo (.long x :: sk) S M k n) : zG E Y t pc lo (.int j :: .ref a :: sk) S M k n := by
  subst hq; unfold zldJ at e; split at e
  · rename_i h; cases e; exact zi_lald hd h.1 h.2 kk
  · cases e
theorem zo_aald {x : Option Nat} (q : Nat) (hd : decode (yB Y) pc = .ok (.aaload, 1)) (e : zldR S M c a j = some x) (hc : c = 16 ∨ c = 17) (hq : pc + 1 = q) (kk : zG E Y t q lo (va_rf x :: sk) S M k n) : zG E Y t pc lo (.int j :: .ref a :: sk) S M k n := by
  subst hq; unfold zldR at e; split at e
  · rename_i h; cases e
    rcases hc with rfl | rfl
    · exact zi_aald16 hd h.1 h.2 kk
    · exact zi_aald17 hd h.1 h.2 kk
  · cases e
theorem zo_iast {x : Int32} {M' : zH} (q : Nat) (hd : decode (yB Y) pc = .ok (.iastore, 1)) (e : zstI S M a j x = some M') (hq : pc + 1 = q) (kk : zG E Y t q lo sk S M' k n) : zG E Y t pc lo (.int x :: .int j :: .ref a :: sk) S M k n := by
  subst hq; unfold zstI at e; split at e
  · rename_i h; cases e; exact zi_iast hd h.1 h.2 kk
  · cases e
theorem zo_zast {x : Int32} {M' : zH} (q : Nat) (hd : decode (yB Y) pc = .ok (.bastore, 1)) (e : zstZ S M a j x = some M') (hq : pc + 1 = q) (kk : zG E Y t q lo sk S M' k n) : zG E Y t pc lo (.int x :: .int j :: .ref a :: sk) S M k n := by
  subst hq; unfold zstZ at e; split at e
  · rename_i h; cases e; exact zi_zast hd h.1 h.2 kk
  · cases e
theorem zo_bast {x : Int32} {M' : zH} (q : Nat) (hd : decode (yB Y) pc = .ok (.bastore, 1)) (e : zstB S M a j x = some M') (hq : pc + 1 = q) (kk : zG E Y t q lo sk S M' k n) : zG E Y t pc lo (.int x :: .int j :: .ref a :: sk) S M k n := by
  subst hq; unfold zstB at e; split at e
  · rename_i h; cases e; exact zi_bast hd h.1 h.2 kk
  · cases e
theorem zo_last {x : Int64} {M' : zH} (q : Nat) (hd : decode (yB Y) pc = .ok (.lastore, 1)) (e : zstJ S M a j x = some M') (hq : pc + 1 = q) (kk : zG E Y t q lo sk S M' k n) : zG E Y t pc lo (.long x :: .int j :: .ref a :: sk) S M k n := by
  subst hq; unfold zstJ at e; split at e
  · rename_i h; cases e; exact zi_last hd h.1 h.2 kk
  · cases e
theorem zo_aast {x : Nat} {cv : Nat} {M' : zH} (q : Nat) (hd : decode (yB Y) pc = .ok (.aastore, 1)) (e : zstR S M c cv a j x = some M') (hc : (c = 16 ∧ cv = 9) ∨ (c = 17 ∧ cv = 3)) (hq : pc + 1 = q) (kk : zG E Y t q lo sk S M' k n) : zG E Y t pc lo (.ref x :: .int j :: .ref a :: sk) S M k n := by
  subst hq; unfold zstR at e; split at e
  · rename_i h; cases e
    rcases hc with ⟨rfl, rfl⟩ | ⟨rfl, rfl⟩
    · exact zi_aast16 hd h.1 h.2.1 h.2.2 kk
    · exact zi_aast17 hd h.1 h.2.1 h.2.2 kk
  · cases e
theorem zo_aastQ {x : Option Nat} {M' : zH} (q : Nat) (hd : decode (yB Y) pc = .ok (.aastore, 1)) (e : zstQ S M a j x = some M') (hq : pc + 1 = q) (kk : zG E Y t q lo sk S M' k n) : zG E Y t pc lo (va_rf x :: .int j :: .ref a :: sk) S M k n := by
  subst hq
  cases x with
  | some x => exact zo_aast (c := 16) (cv := 9) _ hd e (Or.inl ⟨rfl, rfl⟩) rfl kk
  | none =>
    unfold zstQ at e
    dsimp only at e
    split at e
    · rename_i h; cases e; exact zi_aastN hd h.1 h.2 kk
    · cases e
theorem zo_alen {x : Int32} (q : Nat) (hd : decode (yB Y) pc = .ok (.arraylength, 1)) (e : zlen S c a = some x) (hc : c = 12 ∨ c = 13 ∨ c = 14 ∨ c = 15 ∨ c = 16 ∨ c = 17) (hq : pc + 1 = q) (kk : zG E Y t q lo (.int x :: sk) S M k n) : zG E Y t pc lo (.ref a :: sk) S M k n := by
  subst hq; unfold zlen at e; split at e
  · rename_i h; cases e
    rcases hc with rfl | rfl | rfl | rfl | rfl | rfl
    · exact zi_alen12 hd h kk
    · exact zi_alen13 hd h kk
    · exact zi_alen14 hd h kk
    · exact zi_alen15 hd h kk
    · exact zi_alen16 hd h kk
    · exact zi_alen17 hd h kk
  · cases e
theorem zo_idiv {x y z : Int32} (q : Nat) (hd : decode (yB Y) pc = .ok (.idiv, 1)) (e : zdivI x y = some z) (hq : pc + 1 = q) (kk : zG E Y t q lo (.int z :: sk) S M k n) : zG E Y t pc lo (.int y :: .int x :: sk) S M k n := by
  subst hq; unfold zdivI at e; split at e
  · cases e
  · rename_i h; cases e; exact zi_idiv hd h kk
theorem zo_irem {x y z : Int32} (q : Nat) (hd : decode (yB Y) pc = .ok (.irem, 1)) (e : zremI x y = some z) (hq : pc + 1 = q) (kk : zG E Y t q lo (.int z :: sk) S M k n) : zG E Y t pc lo (.int y :: .int x :: sk) S M k n := by
  subst hq; unfold zremI at e; split at e
  · cases e
  · rename_i h; cases e; exact zi_irem hd h kk
theorem zo_ldiv {x y z : Int64} (q : Nat) (hd : decode (yB Y) pc = .ok (.ldiv, 1)) (e : zdivJ x y = some z) (hq : pc + 1 = q) (kk : zG E Y t q lo (.long z :: sk) S M k n) : zG E Y t pc lo (.long y :: .long x :: sk) S M k n := by
  subst hq; unfold zdivJ at e; split at e
  · cases e
  · rename_i h; cases e; exact zi_ldiv hd h kk
theorem zo_lrem {x y z : Int64} (q : Nat) (hd : decode (yB Y) pc = .ok (.lrem, 1)) (e : zremJ x y = some z) (hq : pc + 1 = q) (kk : zG E Y t q lo (.long z :: sk) S M k n) : zG E Y t pc lo (.long y :: .long x :: sk) S M k n := by
  subst hq; unfold zremJ at e; split at e
  · cases e
  · rename_i h; cases e; exact zi_lrem hd h kk
theorem zo_ifeqB {r : Bool} {off : Int} {tgt : Nat} (hd : decode (yB Y) pc = .ok (.ifCond .eq off, 3)) (ht : (pc : Int) + off = (tgt : Int)) (q : Nat) (hq : pc + 3 = q) (kt : ¬ r = true → zG E Y t tgt lo sk S M k n) (kf : r = true → zG E Y t q lo sk S M k n) : zG E Y t pc lo (.int (bI r) :: sk) S M k n := by
  subst hq
  exact zi_if_eq hd ht (fun h => kt (by cases r <;> simp_all [bI])) (fun h => kf (by cases r <;> simp_all [bI]))
theorem zo_ifneB {r : Bool} {off : Int} {tgt : Nat} (hd : decode (yB Y) pc = .ok (.ifCond .ne off, 3)) (ht : (pc : Int) + off = (tgt : Int)) (q : Nat) (hq : pc + 3 = q) (kt : r = true → zG E Y t tgt lo sk S M k n) (kf : ¬ r = true → zG E Y t q lo sk S M k n) : zG E Y t pc lo (.int (bI r) :: sk) S M k n := by
  subst hq
  exact zi_if_ne hd ht (fun h => kt (by cases r <;> simp_all [bI])) (fun h => kf (by cases r <;> simp_all [bI]))
theorem zo_lc_lt {x y : Int64} {off : Int} {tgt : Nat} (hd : decode (yB Y) pc = .ok (.lcmp, 1)) (hd2 : decode (yB Y) (pc + 1) = .ok (.ifCond .lt off, 3)) (ht : ((pc + 1 : Nat) : Int) + off = (tgt : Int)) (q : Nat) (hq : pc + 4 = q) (kt : x < y → zG E Y t tgt lo sk S M k n) (kf : ¬ x < y → zG E Y t q lo sk S M k n) : zG E Y t pc lo (.long y :: .long x :: sk) S M k n := by
  subst hq; exact zi_lcmp hd (zi_if_lt hd2 ht (fun h => kt ((lg_cmp_lt x y).mp h)) (fun h => kf (fun h2 => h ((lg_cmp_lt x y).mpr h2))))
theorem zo_lc_ge {x y : Int64} {off : Int} {tgt : Nat} (hd : decode (yB Y) pc = .ok (.lcmp, 1)) (hd2 : decode (yB Y) (pc + 1) = .ok (.ifCond .ge off, 3)) (ht : ((pc + 1 : Nat) : Int) + off = (tgt : Int)) (q : Nat) (hq : pc + 4 = q) (kt : y ≤ x → zG E Y t tgt lo sk S M k n) (kf : ¬ y ≤ x → zG E Y t q lo sk S M k n) : zG E Y t pc lo (.long y :: .long x :: sk) S M k n := by
  subst hq; exact zi_lcmp hd (zi_if_ge hd2 ht (fun h => kt ((lg_cmp_ge x y).mp h)) (fun h => kf (fun h2 => h ((lg_cmp_ge x y).mpr h2))))
theorem zo_lc_gt {x y : Int64} {off : Int} {tgt : Nat} (hd : decode (yB Y) pc = .ok (.lcmp, 1)) (hd2 : decode (yB Y) (pc + 1) = .ok (.ifCond .gt off, 3)) (ht : ((pc + 1 : Nat) : Int) + off = (tgt : Int)) (q : Nat) (hq : pc + 4 = q) (kt : y < x → zG E Y t tgt lo sk S M k n) (kf : ¬ y < x → zG E Y t q lo sk S M k n) : zG E Y t pc lo (.long y :: .long x :: sk) S M k n := by
  subst hq; exact zi_lcmp hd (zi_if_gt hd2 ht (fun h => kt ((lg_cmp_gt x y).mp h)) (fun h => kf (fun h2 => h ((lg_cmp_gt x y).mpr h2))))
theorem zo_lc_le {x y : Int64} {off : Int} {tgt : Nat} (hd : decode (yB Y) pc = .ok (.lcmp, 1)) (hd2 : decode (yB Y) (pc + 1) = .ok (.ifCond .le off, 3)) (ht : ((pc + 1 : Nat) : Int) + off = (tgt : Int)) (q : Nat) (hq : pc + 4 = q) (kt : x ≤ y → zG E Y t tgt lo sk S M k n) (kf : ¬ x ≤ y → zG E Y t q lo sk S M k n) : zG E Y t pc lo (.long y :: .long x :: sk) S M k n := by
  subst hq; exact zi_lcmp hd (zi_if_le hd2 ht (fun h => kt ((lg_cmp_le x y).mp h)) (fun h => kf (fun h2 => h ((lg_cmp_le x y).mpr h2))))
theorem zo_lc_eq {x y : Int64} {off : Int} {tgt : Nat} (hd : decode (yB Y) pc = .ok (.lcmp, 1)) (hd2 : decode (yB Y) (pc + 1) = .ok (.ifCond .eq off, 3)) (ht : ((pc + 1 : Nat) : Int) + off = (tgt : Int)) (q : Nat) (hq : pc + 4 = q) (kt : x = y → zG E Y t tgt lo sk S M k n) (kf : ¬ x = y → zG E Y t q lo sk S M k n) : zG E Y t pc lo (.long y :: .long x :: sk) S M k n := by
  subst hq; exact zi_lcmp hd (zi_if_eq hd2 ht (fun h => kt ((lg_cmp_eq x y).mp h)) (fun h => kf (fun h2 => h ((lg_cmp_eq x y).mpr h2))))
theorem zo_lc_ne {x y : Int64} {off : Int} {tgt : Nat} (hd : decode (yB Y) pc = .ok (.lcmp, 1)) (hd2 : decode (yB Y) (pc + 1) = .ok (.ifCond .ne off, 3)) (ht : ((pc + 1 : Nat) : Int) + off = (tgt : Int)) (q : Nat) (hq : pc + 4 = q) (kt : ¬ x = y → zG E Y t tgt lo sk S M k n) (kf : x = y → zG E Y t q lo sk S M k n) : zG E Y t pc lo (.long y :: .long x :: sk) S M k n := by
  subst hq; exact zi_lcmp hd (zi_if_ne hd2 ht (fun h => kt (fun h2 => h ((lg_cmp_eq x y).mpr h2))) (fun h => kf ((lg_cmp_eq x y).mp h)))
/-- a switch: one of its numbers -/
theorem zo_tab {dflt b0 b1 : Int} {offs : Array Int} {len : Nat} {x : Int32} (v : Int32) {off : Int} {tgt : Nat} (hd : decode (yB Y) pc = .ok (.tableswitch dflt b0 b1 offs, len)) (hx : x = v) (h1 : ¬ v.toInt < b0) (h2 : ¬ b1 < v.toInt) (ho : offs[(v.toInt - b0).toNat]? = some off) (ht : (pc : Int) + off = (tgt : Int)) (kk : zG E Y t tgt lo sk S M k n) : zG E Y t pc lo (.int x :: sk) S M k n := by
  subst hx; exact zi_tabIn hd h1 h2 ho ht kk
/-- a switch: none of its numbers 0 .. m - 1 -/
theorem zo_tabO {dflt b1 : Int} {offs : Array Int} {len : Nat} {x : Int32} (m : Nat) {tgt : Nat} (hd : decode (yB Y) pc = .ok (.tableswitch dflt 0 b1 offs, len)) (hb : b1 + 1 = (m : Int)) (hx : ∀ j : Nat, j < m → ¬ x = Int32.ofNat j) (ht : (pc : Int) + dflt = (tgt : Int)) (kk : zG E Y t tgt lo sk S M k n) : zG E Y t pc lo (.int x :: sk) S M k n := by
  refine zi_tabOut hd ?_ ht kk
  by_cases h0 : x.toInt < 0
  · exact Or.inl h0
  · by_cases h1 : b1 < x.toInt
    · exact Or.inr h1
    · exfalso
      refine hx x.toInt.toNat (by omega) ?_
      apply Int32.toInt_inj.mp
      have h2 := x.toInt_lt
      rw [Int32.toInt_ofNat_of_lt (by omega)]
      omega
end
theorem zkd_of {c N : Nat} {C : String} {T : u_T} {ty : Nat → FieldType} (h1 : c < 12) (h2 : zCL[c]? = some (C, T, N)) (h3 : ∀ w ∈ u_ws C T N, w ∈ zTB) (h4 : ∀ k, k < N → parseFieldDescriptor (T k).2.2.1 = some (ty k)) (h5 : ∀ a, a < N → ∀ b, b < N → a ≠ b → (T a).2.1 ≠ (T b).2.1) (h6 : (zFK c).length = N) : zKd c C T N ty := ⟨h1, h2, h3, h4, h5, h6⟩
theorem zkd_0 : zKd 0 zR0 zT_0 1 zty_0 := zkd_of (by decide) rfl zin_0 zok_0 znm_0 rfl
theorem zkd_1 : zKd 1 zR1 zT_1 2 zty_1 := zkd_of (by decide) rfl zin_1 zok_1 znm_1 rfl
theorem zkd_2 : zKd 2 zR2 zT_2 1 zty_2 := zkd_of (by decide) rfl zin_2 zok_2 znm_2 rfl
theorem zkd_3 : zKd 3 zR3 zT_3 15 zty_3 := zkd_of (by decide) rfl zin_3 zok_3 znm_3 rfl
theorem zkd_4 : zKd 4 zR4 zT_4 10 zty_4 := zkd_of (by decide) rfl zin_4 zok_4 znm_4 rfl
theorem zkd_5 : zKd 5 zR5 zT_5 4 zty_5 := zkd_of (by decide) rfl zin_5 zok_5 znm_5 rfl
theorem zkd_6 : zKd 6 zR6 zT_6 2 zty_6 := zkd_of (by decide) rfl zin_6 zok_6 znm_6 rfl
theorem zkd_7 : zKd 7 zR7 zT_7 6 zty_7 := zkd_of (by decide) rfl zin_7 zok_7 znm_7 rfl
theorem zkd_8 : zKd 8 zR8 zT_8 6 zty_8 := zkd_of (by decide) rfl zin_8 zok_8 znm_8 rfl
theorem zkd_9 : zKd 9 zR9 zT_9 7 zty_9 := zkd_of (by decide) rfl zin_9 zok_9 znm_9 rfl
theorem zkd_10 : zKd 10 zR10 zT_10 19 zty_10 := zkd_of (by decide) rfl zin_10 zok_10 znm_10 rfl
theorem zkd_11 : zKd 11 zR11 zT_11 57 zty_11 := zkd_of (by decide) rfl zin_11 zok_11 znm_11 rfl
