/-! law and orders: what a piece of code computes -/
theorem rC_fuel {st : Nat → Int} {nw : Nat} {w : Nat → Int} {beh : Nat} : ∀ (k k' p : Nat) (s : List Int), beh < p + k → 0 < k → beh < p + k' → 0 < k' → rC st nw w beh k p s = rC st nw w beh k' p s := by
  intro k
  induction k with
  | zero => intro k' p s _ h; omega
  | succ k ih =>
    intro k' p s h _ h' h2
    cases k' with
    | zero => omega
    | succ k' =>
      unfold rC
      by_cases c : beh ≤ p
      · rw [if_pos c, if_pos c]
      · rw [if_neg c, if_neg c]
        have e1 : ∀ s, rC st nw w beh k (p + 1) s = rC st nw w beh k' (p + 1) s := fun s => ih k' (p + 1) s (by omega) (by omega) (by omega) (by omega)
        have e2 : ∀ q s, rC st nw w beh k (max p q + 1) s = rC st nw w beh k' (max p q + 1) s := fun q s => ih k' (max p q + 1) s (by omega) (by omega) (by omega) (by omega)
        simp only [e1, e2]
theorem rM_fuel {ord : Bool} {mo ma w : Nat → Int} {last : Nat} : ∀ (k k' p : Nat) (s : List Int), last < p + k → 0 < k → last < p + k' → 0 < k' → rM ord mo ma w last k p s = rM ord mo ma w last k' p s := by
  intro k
  induction k with
  | zero => intro k' p s _ h; omega
  | succ k ih =>
    intro k' p s h _ h' h2
    cases k' with
    | zero => omega
    | succ k' =>
      unfold rM
      by_cases c : last ≤ p
      · rw [if_pos c, if_pos c]
      · rw [if_neg c, if_neg c]
        have e1 : ∀ s, rM ord mo ma w last k (p + 1) s = rM ord mo ma w last k' (p + 1) s := fun s => ih k' (p + 1) s (by omega) (by omega) (by omega) (by omega)
        have e2 : ∀ s, (if (p : Int) < ma p ∧ ma p ≤ 400 then rM ord mo ma w last k (ma p).toNat s else none) = (if (p : Int) < ma p ∧ ma p ≤ 400 then rM ord mo ma w last k' (ma p).toNat s else none) := fun s => by
          by_cases q : (p : Int) < ma p ∧ ma p ≤ 400
          · rw [if_pos q, if_pos q]; exact ih k' _ s (by omega) (by omega) (by omega) (by omega)
          · rw [if_neg q, if_neg q]
        simp only [e1, e2]
def RC (st : Nat → Int) (nw : Nat) (w : Nat → Int) (beh p : Nat) (s : List Int) : Option Int := rC st nw w beh (beh + 1) p s
noncomputable def RM (ord : Bool) (mo ma w : Nat → Int) (last p : Nat) (s : List Int) : Option (Option Int) := rM ord mo ma w last (last + 1) p s
theorem RC_f {st : Nat → Int} {nw : Nat} {w : Nat → Int} {beh k p : Nat} {s : List Int} (h : beh < p + k) (hk : 0 < k) : rC st nw w beh k p s = RC st nw w beh p s := rC_fuel _ _ _ _ h hk (by omega) (by omega)
theorem RM_f {ord : Bool} {mo ma w : Nat → Int} {last k p : Nat} {s : List Int} (h : last < p + k) (hk : 0 < k) : rM ord mo ma w last k p s = RM ord mo ma w last p s := rM_fuel _ _ _ _ h hk (by omega) (by omega)
/-- the class's steps from i to j compute f, with d of room -/
def sgC (st : Nat → Int) (nw i j d : Nat) (f : (Nat → Int) → Option Int) : Prop := i ≤ j ∧ ∀ st', (∀ p, i ≤ p → p < j → st' p = st p) → ∀ (w : Nat → Int) (beh : Nat) (s : List Int), j ≤ beh → s.length + d ≤ 64 → RC st' nw w beh i s = match f w with
  | none => none
  | some v => RC st' nw w beh j (v :: s)
/-- the model's from i to j; Z: of the words -/
def sgM (ord : Bool) (mo ma : Nat → Int) (Z : (Nat → Int) → Prop) (i j d : Nat) (f : (Nat → Int) → Option Int) : Prop := i ≤ j ∧ ∀ mo' ma', (∀ p, i ≤ p → p < j → mo' p = mo p ∧ ma' p = ma p) → ∀ (w : Nat → Int) (last : Nat) (s : List Int), Z w → j ≤ last → s.length + d ≤ 400 → RM ord mo' ma' w last i s = match f w with
  | none => some none
  | some v => RM ord mo' ma' w last j (v :: s)
section
variable {st st' : Nat → Int} {nw i j k d d1 d2 : Nat} {f g : (Nat → Int) → Option Int} {ord : Bool} {mo ma mo' ma' : Nat → Int} {Z : (Nat → Int) → Prop}
theorem sgC.cg (h : sgC st nw i j d f) (e : ∀ p, i ≤ p → p < j → st' p = st p) : sgC st' nw i j d f := ⟨h.1, fun s2 e2 => h.2 s2 (fun p p1 p2 => (e2 p p1 p2).trans (e p p1 p2))⟩
theorem sgM.cg (h : sgM ord mo ma Z i j d f) (e : ∀ p, i ≤ p → p < j → mo' p = mo p ∧ ma' p = ma p) : sgM ord mo' ma' Z i j d f := ⟨h.1, fun m2 a2 e2 => h.2 m2 a2 (fun p p1 p2 => ⟨(e2 p p1 p2).1.trans (e p p1 p2).1, (e2 p p1 p2).2.trans (e p p1 p2).2⟩)⟩
theorem sgC.up (h : sgC st nw i j d f) {d' : Nat} (hd : d ≤ d') : sgC st nw i j d' f := ⟨h.1, fun s2 e2 w beh s hb hs => h.2 s2 e2 w beh s hb (by omega)⟩
theorem sgM.up (h : sgM ord mo ma Z i j d f) {d' : Nat} (hd : d ≤ d') : sgM ord mo ma Z i j d' f := ⟨h.1, fun m2 a2 e2 w beh s hz hb hs => h.2 m2 a2 e2 w beh s hz hb (by omega)⟩
theorem RC_num {w : Nat → Int} {beh p : Nat} {s : List Int} (hp : p < beh) (h : st p % 16 = 0) (hs : s.length < 64) : RC st nw w beh p s = RC st nw w beh (p + 1) (st p / 16 :: s) := by
  show rC st nw w beh (beh + 1) p s = _
  unfold rC
  rw [if_neg (by omega), if_pos h, if_neg (by omega), RC_f (by omega) (by omega)]
theorem RC_wrd {w : Nat → Int} {beh p : Nat} {s : List Int} (hp : p < beh) (h : st p % 16 = 1) (hw : st p / 16 < nw) (hs : s.length < 64) : RC st nw w beh p s = RC st nw w beh (p + 1) (w (st p / 16).toNat :: s) := by
  show rC st nw w beh (beh + 1) p s = _
  unfold rC
  rw [if_neg (by omega), if_neg (by omega), if_pos h, if_neg (by omega), if_neg (by omega), RC_f (by omega) (by omega)]
theorem RC_not {w : Nat → Int} {beh p : Nat} {b : Int} {s : List Int} (hp : p < beh) (h : st p % 16 = 2) : RC st nw w beh p (b :: s) = RC st nw w beh (p + 1) ((if b = 0 then 1 else 0) :: s) := by
  show rC st nw w beh (beh + 1) p (b :: s) = _
  unfold rC
  rw [if_neg (by omega), if_neg (by omega), if_neg (by omega)]
  dsimp only
  rw [if_pos h, RC_f (by omega) (by omega)]
theorem RC_and {w : Nat → Int} {beh p m : Nat} {b : Int} {s : List Int} (hp : p < beh) (hm : p < m) (h : st p % 16 = 3) (hx : st p / 16 = m) : RC st nw w beh p (b :: s) = if b = 0 then RC st nw w beh m (b :: s) else RC st nw w beh (p + 1) s := by
  show rC st nw w beh (beh + 1) p (b :: s) = _
  unfold rC
  rw [if_neg (by omega), if_neg (by omega), if_neg (by omega)]
  dsimp only
  rw [if_neg (by omega), if_pos h, hx, show max p ((m : Int).toNat - 1) + 1 = m by omega, RC_f (by omega) (by omega), RC_f (by omega) (by omega)]
theorem RC_or {w : Nat → Int} {beh p m : Nat} {b : Int} {s : List Int} (hp : p < beh) (hm : p < m) (h : st p % 16 = 4) (hx : st p / 16 = m) : RC st nw w beh p (b :: s) = if b = 1 then RC st nw w beh m (b :: s) else RC st nw w beh (p + 1) s := by
  show rC st nw w beh (beh + 1) p (b :: s) = _
  unfold rC
  rw [if_neg (by omega), if_neg (by omega), if_neg (by omega)]
  dsimp only
  rw [if_neg (by omega), if_neg (by omega), if_pos h, hx, show max p ((m : Int).toNat - 1) + 1 = m by omega, RC_f (by omega) (by omega), RC_f (by omega) (by omega)]
theorem RC_bin {w : Nat → Int} {beh p : Nat} {a b op : Int} {s : List Int} (hp : p < beh) (h : st p % 16 = op) (ho : 5 ≤ op) : RC st nw w beh p (b :: a :: s) = match cRg (cOp op a b) with
    | none => none
    | some v => RC st nw w beh (p + 1) (v :: s) := by
  show rC st nw w beh (beh + 1) p (b :: a :: s) = _
  unfold rC
  rw [if_neg (by omega), if_neg (by omega), if_neg (by omega)]
  dsimp only
  rw [if_neg (by omega), if_neg (by omega), if_neg (by omega), h]
  cases cRg (cOp op a b) with
  | none => rfl
  | some v => exact RC_f (by omega) (by omega)
theorem RM_leaf {w : Nat → Int} {last p : Nat} {s : List Int} (hp : p < last) (h : mo p < 20) (hl : lv ord (mo p) (ma p)) (hs : s.length < 400) : RM ord mo ma w last p s = RM ord mo ma w last (p + 1) ((if mo p = 0 then ma p else w (li ord (mo p) (ma p))) :: s) := by
  show rM ord mo ma w last (last + 1) p s = _
  unfold rM
  rw [if_neg (by omega), if_pos h, if_pos ⟨hl, hs⟩, RM_f (by omega) (by omega)]
theorem RM_bin {w : Nat → Int} {last p : Nat} {a b : Int} {s : List Int} (hp : p < last) (h1 : 20 ≤ mo p) (h2 : mo p < 28) : RM ord mo ma w last p (b :: a :: s) = match cRg (cOp (mo p - 15) a b) with
    | none => some none
    | some v => RM ord mo ma w last (p + 1) (v :: s) := by
  show rM ord mo ma w last (last + 1) p (b :: a :: s) = _
  unfold rM
  rw [if_neg (by omega), if_neg (by omega), if_pos h2]
  dsimp only
  cases cRg (cOp (mo p - 15) a b) with
  | none => rfl
  | some v => exact RM_f (by omega) (by omega)
theorem RM_not {w : Nat → Int} {last p : Nat} {b : Int} {s : List Int} (hp : p < last) (h1 : mo p = 28) (hb : b = 0 ∨ b = 1) : RM ord mo ma w last p (b :: s) = RM ord mo ma w last (p + 1) ((1 - b) :: s) := by
  show rM ord mo ma w last (last + 1) p (b :: s) = _
  unfold rM
  rw [if_neg (by omega), if_neg (by omega), if_neg (by omega), if_pos h1]
  dsimp only
  rw [if_pos hb, RM_f (by omega) (by omega)]
theorem RM_lp {w : Nat → Int} {last p m : Nat} {b : Int} {s : List Int} (hp : p < last) (h1 : 29 ≤ mo p) (hm : p < m) (hm4 : m ≤ 400) (hx : ma p = m) : RM ord mo ma w last p (b :: s) = if b = (if mo p = 29 then 0 else 1) then RM ord mo ma w last m (b :: s) else RM ord mo ma w last (p + 1) s := by
  show rM ord mo ma w last (last + 1) p (b :: s) = _
  unfold rM
  rw [if_neg (by omega), if_neg (by omega), if_neg (by omega), if_neg (by omega)]
  dsimp only
  rw [if_pos (show (p : Int) < ma p ∧ ma p ≤ 400 by omega), hx, Int.toNat_natCast, RM_f (by omega) (by omega), RM_f (by omega) (by omega)]
theorem sgC.num {v : Int} (h : st i % 16 = 0) (hv : st i / 16 = v) : sgC st nw i (i + 1) 1 (fun _ => some v) := ⟨by omega, fun s2 e2 w beh s hb hs => by
  rw [RC_num (by omega) (by rw [e2 i (by omega) (by omega)]; exact h) (by omega), e2 i (by omega) (by omega), hv]⟩
theorem sgC.wrd {v : Nat} (h : st i % 16 = 1) (hv : st i / 16 = v) (hn : v < nw) : sgC st nw i (i + 1) 1 (fun w => some (w v)) := ⟨by omega, fun s2 e2 w beh s hb hs => by
  rw [RC_wrd (by omega) (by rw [e2 i (by omega) (by omega)]; exact h) (by rw [e2 i (by omega) (by omega)]; omega) (by omega), e2 i (by omega) (by omega), hv, Int.toNat_natCast]⟩
def bnF (op : Int) (f g : (Nat → Int) → Option Int) : (Nat → Int) → Option Int := fun w => match f w with
  | none => none
  | some a => match g w with
    | none => none
    | some b => cRg (cOp op a b)
def ntF (f : (Nat → Int) → Option Int) : (Nat → Int) → Option Int := fun w => match f w with
  | none => none
  | some a => some (if a = 0 then 1 else 0)
def anF (x : Int) (f g : (Nat → Int) → Option Int) : (Nat → Int) → Option Int := fun w => match f w with
  | none => none
  | some a => if a = x then some a else g w
/-- a test is 0 or 1 -/
def tst (f : (Nat → Int) → Option Int) : Prop := ∀ w v, f w = some v → v = 0 ∨ v = 1
theorem sgC.bin {op : Int} (h1 : sgC st nw i j d1 f) (h2 : sgC st nw j k d2 g) (h : st k % 16 = op) (ho : 5 ≤ op) : sgC st nw i (k + 1) (max d1 (d2 + 1)) (bnF op f g) := ⟨by have := h1.1; have := h2.1; omega, fun s2 e2 w beh s hb hs => by
  have q1 := h1.1
  have q2 := h2.1
  rw [h1.2 s2 (fun p p1 p2 => e2 p p1 (by omega)) w beh s (by omega) (by omega)]
  unfold bnF
  cases f w with
  | none => rfl
  | some a =>
    dsimp only
    rw [h2.2 s2 (fun p p1 p2 => e2 p (by omega) (by omega)) w beh (a :: s) (by omega) (by rw [List.length_cons]; omega)]
    cases g w with
    | none => rfl
    | some b => exact RC_bin (by omega) (by rw [e2 k (by omega) (by omega)]; exact h) ho⟩
theorem sgC.not (h1 : sgC st nw i j d f) (h : st j % 16 = 2) : sgC st nw i (j + 1) d (ntF f) := ⟨by have := h1.1; omega, fun s2 e2 w beh s hb hs => by
  have q1 := h1.1
  rw [h1.2 s2 (fun p p1 p2 => e2 p p1 (by omega)) w beh s (by omega) (by omega)]
  unfold ntF
  cases f w with
  | none => rfl
  | some a => exact RC_not (by omega) (by rw [e2 j (by omega) (by omega)]; exact h)⟩
theorem sgC.and (h1 : sgC st nw i j d1 f) (h2 : sgC st nw (j + 1) k d2 g) (h : st j % 16 = 3) (hx : st j / 16 = k) : sgC st nw i k (max d1 d2) (anF 0 f g) := ⟨by have := h1.1; have := h2.1; omega, fun s2 e2 w beh s hb hs => by
  have q1 := h1.1
  have q2 := h2.1
  have ej := e2 j (by omega) (by omega)
  rw [h1.2 s2 (fun p p1 p2 => e2 p p1 (by omega)) w beh s (by omega) (by omega)]
  unfold anF
  cases f w with
  | none => rfl
  | some a =>
    dsimp only
    rw [RC_and (m := k) (by omega) (by omega) (by rw [ej]; exact h) (by rw [ej]; exact hx)]
    by_cases c : a = 0
    · rw [if_pos c, if_pos c]
    · rw [if_neg c, if_neg c]
      exact h2.2 s2 (fun p p1 p2 => e2 p (by omega) p2) w beh s hb (by omega)⟩
theorem sgC.or (h1 : sgC st nw i j d1 f) (h2 : sgC st nw (j + 1) k d2 g) (h : st j % 16 = 4) (hx : st j / 16 = k) : sgC st nw i k (max d1 d2) (anF 1 f g) := ⟨by have := h1.1; have := h2.1; omega, fun s2 e2 w beh s hb hs => by
  have q1 := h1.1
  have q2 := h2.1
  have ej := e2 j (by omega) (by omega)
  rw [h1.2 s2 (fun p p1 p2 => e2 p p1 (by omega)) w beh s (by omega) (by omega)]
  unfold anF
  cases f w with
  | none => rfl
  | some a =>
    dsimp only
    rw [RC_or (m := k) (by omega) (by omega) (by rw [ej]; exact h) (by rw [ej]; exact hx)]
    by_cases c : a = 1
    · rw [if_pos c, if_pos c]
    · rw [if_neg c, if_neg c]
      exact h2.2 s2 (fun p p1 p2 => e2 p (by omega) p2) w beh s hb (by omega)⟩
theorem sgM.leaf (h : mo i < 20) (hl : lv ord (mo i) (ma i)) : sgM ord mo ma Z i (i + 1) 1 (fun w => some (if mo i = 0 then ma i else w (li ord (mo i) (ma i)))) := ⟨by omega, fun m2 a2 e2 w beh s hz hb hs => by
  obtain ⟨e1, e3⟩ := e2 i (by omega) (by omega)
  rw [RM_leaf (by omega) (by rw [e1]; exact h) (by rw [e1, e3]; exact hl) (by omega), e1, e3]⟩
theorem sgM.bin {op : Int} (h1 : sgM ord mo ma Z i j d1 f) (h2 : sgM ord mo ma Z j k d2 g) (h : mo k = op + 15) (ho : 5 ≤ op) (ho2 : op < 13) : sgM ord mo ma Z i (k + 1) (max d1 (d2 + 1)) (bnF op f g) := ⟨by have := h1.1; have := h2.1; omega, fun m2 a2 e2 w beh s hz hb hs => by
  have q1 := h1.1
  have q2 := h2.1
  rw [h1.2 m2 a2 (fun p p1 p2 => e2 p p1 (by omega)) w beh s hz (by omega) (by omega)]
  unfold bnF
  cases f w with
  | none => rfl
  | some a =>
    dsimp only
    rw [h2.2 m2 a2 (fun p p1 p2 => e2 p (by omega) (by omega)) w beh (a :: s) hz (by omega) (by rw [List.length_cons]; omega)]
    cases g w with
    | none => rfl
    | some b =>
      have ek := (e2 k (by omega) (by omega)).1
      have := RM_bin (ord := ord) (mo := m2) (ma := a2) (w := w) (last := beh) (p := k) (a := a) (b := b) (s := s) (by omega) (by omega) (by omega)
      rw [ek, h, show op + 15 - 15 = op by omega] at this
      exact this⟩
theorem sgM.not (h1 : sgM ord mo ma Z i j d f) (ht : tst f) (h : mo j = 28) : sgM ord mo ma Z i (j + 1) d (ntF f) := ⟨by have := h1.1; omega, fun m2 a2 e2 w beh s hz hb hs => by
  have q1 := h1.1
  have ej := (e2 j (by omega) (by omega)).1
  rw [h1.2 m2 a2 (fun p p1 p2 => e2 p p1 (by omega)) w beh s hz (by omega) (by omega)]
  unfold ntF
  cases hf : f w with
  | none => rfl
  | some a =>
    dsimp only
    have ta := ht w a hf
    rw [RM_not (by omega) (by rw [ej]; exact h) ta]
    rcases ta with q | q <;> rw [q] <;> rfl⟩
theorem sgM.lp {x : Int} (h1 : sgM ord mo ma Z i j d1 f) (h2 : sgM ord mo ma Z (j + 1) k d2 g) (h : (mo j = 29 ∧ x = 0) ∨ (mo j = 30 ∧ x = 1)) (hx : ma j = k) (hk : k ≤ 400) : sgM ord mo ma Z i k (max d1 d2) (anF x f g) := ⟨by have := h1.1; have := h2.1; omega, fun m2 a2 e2 w beh s hz hb hs => by
  have q1 := h1.1
  have q2 := h2.1
  obtain ⟨ej, aj⟩ := e2 j (by omega) (by omega)
  have hxx : (if m2 j = 29 then (0 : Int) else 1) = x := by
    rw [ej]
    rcases h with ⟨a1, a2⟩ | ⟨a1, a2⟩
    · rw [if_pos a1, a2]
    · rw [if_neg (by omega), a2]
  rw [h1.2 m2 a2 (fun p p1 p2 => e2 p p1 (by omega)) w beh s hz (by omega) (by omega)]
  unfold anF
  cases f w with
  | none => rfl
  | some a =>
    dsimp only
    rw [RM_lp (m := k) (by omega) (by omega) (by omega) hk (by rw [aj]; exact hx), hxx]
    by_cases c : a = x
    · rw [if_pos c, if_pos c]
    · rw [if_neg c, if_neg c]
      exact h2.2 m2 a2 (fun p p1 p2 => e2 p (by omega) p2) w beh s hz hb (by omega)⟩
theorem tst.nt (h : tst f) : tst (ntF f) := fun w v e => by
  unfold ntF at e
  cases hf : f w with
  | none => rw [hf] at e; cases e
  | some a => rw [hf] at e; have := Option.some.inj e; rw [← this]; split <;> omega
theorem ntF2 (h : tst f) : ntF (ntF f) = f := funext (fun w => by
  unfold ntF
  cases hf : f w with
  | none => rfl
  | some a => rcases h w a hf with q | q <;> rw [q] <;> rfl)
theorem tst.an {x : Int} (h : tst f) (h2 : tst g) : tst (anF x f g) := fun w v e => by
  unfold anF at e
  cases hf : f w with
  | none => rw [hf] at e; cases e
  | some a =>
    rw [hf] at e
    dsimp only at e
    by_cases c : a = x
    · rw [if_pos c] at e; rw [← Option.some.inj e]; exact h w a hf
    · rw [if_neg c] at e; exact h2 w v e
theorem tst.cmp {op : Int} (h1 : 10 ≤ op) : tst (bnF op f g) := fun w v e => by
  unfold bnF at e
  cases hf : f w with
  | none => rw [hf] at e; cases e
  | some a =>
    rw [hf] at e
    dsimp only at e
    cases hg : g w with
    | none => rw [hg] at e; cases e
    | some b =>
      rw [hg] at e
      dsimp only at e
      unfold cOp at e
      rw [if_neg (by omega), if_neg (by omega), if_neg (by omega), if_neg (by omega), if_neg (by omega)] at e
      unfold cRg at e
      by_cases c : op = 10
      · rw [if_pos c] at e
        by_cases z : a < b
        · rw [if_pos z] at e; exact Or.inr (Option.some.inj e).symm
        · rw [if_neg z] at e; exact Or.inl (Option.some.inj e).symm
      · rw [if_neg c] at e
        by_cases c : op = 11
        · rw [if_pos c] at e
          by_cases z : b < a
          · rw [if_pos z] at e; exact Or.inr (Option.some.inj e).symm
          · rw [if_neg z] at e; exact Or.inl (Option.some.inj e).symm
        · rw [if_neg c] at e
          by_cases z : a = b
          · rw [if_pos z] at e; exact Or.inr (Option.some.inj e).symm
          · rw [if_neg z] at e; exact Or.inl (Option.some.inj e).symm
/-- the whole of it -/
theorem sgC.run (h : sgC st nw i j d f) (hd : d ≤ 64) (hk : j < i + k) (hk0 : 0 < k) (w : Nat → Int) : rC st nw w j k i [] = f w := by
  rw [RC_f hk hk0, h.2 st (fun _ _ _ => rfl) w j [] (Nat.le_refl _) (by show 0 + d ≤ 64; omega)]
  cases f w with
  | none => rfl
  | some v =>
    show rC st nw w j (j + 1) j [v] = some v
    unfold rC
    rw [if_pos (Nat.le_refl _)]
theorem sgM.run (h : sgM ord mo ma Z i j d f) (hd : d ≤ 400) (hk : j < i + k) (hk0 : 0 < k) (w : Nat → Int) (hz : Z w) : rM ord mo ma w j k i [] = some (f w) := by
  rw [RM_f hk hk0, h.2 mo ma (fun _ _ _ => ⟨rfl, rfl⟩) w j [] hz (Nat.le_refl _) (by show 0 + d ≤ 400; omega)]
  cases f w with
  | none => rfl
  | some v =>
    show rM ord mo ma w j (j + 1) j [v] = some (some v)
    unfold rM
    rw [if_pos (Nat.le_refl _)]
end
