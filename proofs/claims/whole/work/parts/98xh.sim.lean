/-! law and orders: the simulation: places, masks, code -/
def nx (tb : Nat → Int) (l s : Nat) : Nat := sT tb l (tE tb l s)
theorem nx_b {tb : Nat → Int} {l s : Nat} (h : s ≤ l) : s ≤ nx tb l s ∧ nx tb l s ≤ l ∧ (kdT tb l s ≠ 0 → s < nx tb l s) := by
  have h1 := tE_b (tb := tb) h
  have h2 := sE_ok (c := isB) (tb := tb) (l := l) (p := tE tb l s) h1.2.1
  unfold nx sT
  refine ⟨by omega, by omega, fun z => ?_⟩
  have := h1.2.2 (kdT_l z)
  omega
theorem nx_2 {tb : Nat → Int} {l s : Nat} (hs : s ≤ l) {i : Nat} (h : isWd tb l s i = true) (hi : 2 ≤ (zLit i).length) : s + 2 ≤ nx tb l s := by
  unfold isWd at h
  rw [Bool.and_eq_true] at h
  unfold smW at h
  have h2 := (of_decide_eq_true h.2).1
  have h1 := tE_b (tb := tb) hs
  have h3 := sE_ok (c := isB) (tb := tb) (l := l) (p := tE tb l s) h1.2.1
  unfold nx sT
  omega
theorem iI_or (a b : Nat) : iI (a : Int) ||| iI (b : Int) = iI ((a ||| b : Nat) : Int) := by
  apply Int32.toBitVec_inj.mp
  show (BitVec.ofInt 32 (a : Int)) ||| (BitVec.ofInt 32 (b : Int)) = BitVec.ofInt 32 ((a ||| b : Nat) : Int)
  rw [BitVec.ofInt_natCast, BitVec.ofInt_natCast, BitVec.ofInt_natCast, BitVec.ofNat_or]
theorem iI_and (a b : Nat) : iI (a : Int) &&& iI (b : Int) = iI ((a &&& b : Nat) : Int) := by
  apply Int32.toBitVec_inj.mp
  show (BitVec.ofInt 32 (a : Int)) &&& (BitVec.ofInt 32 (b : Int)) = BitVec.ofInt 32 ((a &&& b : Nat) : Int)
  rw [BitVec.ofInt_natCast, BitVec.ofInt_natCast, BitVec.ofInt_natCast, BitVec.ofNat_and]
theorem and_0 {a k : Nat} : (a &&& 2 ^ k = 0) ↔ a.testBit k = false := by
  constructor
  · intro h
    have e : (a &&& 2 ^ k).testBit k = false := by rw [h]; exact Nat.zero_testBit k
    rw [Nat.testBit_and, Nat.testBit_two_pow_self, Bool.and_true] at e
    exact e
  · intro h
    apply Nat.eq_of_testBit_eq
    intro i
    rw [Nat.testBit_and, Nat.zero_testBit]
    by_cases c : k = i
    · rw [← c, h, Bool.false_and]
    · rw [Nat.testBit_two_pow_of_ne c, Bool.and_false]
def wsub (a b : Nat) : Prop := ∀ i, a.testBit i = true → b.testBit i = true
/-- f asks only for the words ahead of the flows, and for those of the mask -/
def dpw (wm : Nat) (f : (Nat → Int) → Option Int) : Prop := ∀ w w' : Nat → Int, (∀ i, i < 11 ∨ wm.testBit i = true → w i = w' i) → f w = f w'
section
variable {a b c wm : Nat} {f g : (Nat → Int) → Option Int}
theorem wsub.rfl' : wsub a a := fun _ h => h
theorem wsub.trans (h : wsub a b) (h2 : wsub b c) : wsub a c := fun i q => h2 i (h i q)
theorem wsub.or {w : Nat} : wsub a (a ||| 2 ^ w) := fun i q => by rw [Nat.testBit_or, q, Bool.true_or]
theorem dpw.up (h : dpw a f) (hs : wsub a b) : dpw b f := fun w w' e => h w w' (fun i q => e i (q.imp id (hs i)))
theorem dpw.bn {op : Int} (h : dpw wm f) (h2 : dpw wm g) : dpw wm (bnF op f g) := fun w w' e => by unfold bnF; rw [h w w' e, h2 w w' e]
theorem dpw.nt (h : dpw wm f) : dpw wm (ntF f) := fun w w' e => by unfold ntF; rw [h w w' e]
theorem dpw.an {x : Int} (h : dpw wm f) (h2 : dpw wm g) : dpw wm (anF x f g) := fun w w' e => by unfold anF; rw [h w w' e, h2 w w' e]
end
abbrev Cd : Type := (Nat → Int) × (Nat → Int) × Nat
theorem flu_app : ∀ (Q R : List (Int × Int)) (c : Cd), flu (Q ++ R) c = flu R (flu Q c) := by
  intro Q
  induction Q with
  | nil => intro R c; rfl
  | cons x t ih => intro R c; exact ih R (fl1 x c)
theorem flu_len : ∀ (Q : List (Int × Int)) (c : Cd), c.2.2 ≤ (flu Q c).2.2 ∧ (flu Q c).2.2 ≤ c.2.2 + Q.length := by
  intro Q
  induction Q with
  | nil => intro c; exact ⟨Nat.le_refl _, Nat.le_refl _⟩
  | cons x t ih =>
    intro c
    have := ih (fl1 x c)
    have e : flu (x :: t) c = flu t (fl1 x c) := rfl
    rw [e, List.length_cons]
    unfold fl1 at this ⊢
    split
    · rename_i q; rw [if_pos q] at this; dsimp only at this ⊢; omega
    · rename_i q; rw [if_neg q] at this; dsimp only at this ⊢; omega
/-- code that goes on from nc to where c ends, and computes f -/
def cdOK (ord : Bool) (mo ma : Nat → Int) (nc : Nat) (c : Cd) (d : Nat) (f : (Nat → Int) → Option Int) : Prop := (∀ p, p < nc → c.1 p = mo p ∧ c.2.1 p = ma p) ∧ sgM ord c.1 c.2.1 (fun _ => True) nc c.2.2 d f ∧ ∀ p, nc ≤ p → p < c.2.2 → 0 ≤ c.1 p ∧ c.1 p ≤ 30 ∧ 0 ≤ c.2.1 p ∧ c.2.1 p ≤ 1000
section
variable {ord : Bool} {mo ma : Nat → Int} {nc d d1 d2 : Nat} {c1 c2 : Cd} {f g : (Nat → Int) → Option Int}
theorem upF_s {h : Nat → Int} {k : Nat} {v : Int} : upF h k v k = v := if_pos rfl
theorem upF_n {h : Nat → Int} {k p : Nat} {v : Int} (q : p ≠ k) : upF h k v p = h p := if_neg q
theorem cdOK.le (h : cdOK ord mo ma nc c1 d f) : nc ≤ c1.2.2 := h.2.1.1
theorem cdOK.up (h : cdOK ord mo ma nc c1 d1 f) (hd : d1 ≤ d2) : cdOK ord mo ma nc c1 d2 f := ⟨h.1, h.2.1.up hd, h.2.2⟩
theorem cd_leaf {o a : Int} (h : o < 20) (hl : lv ord o a) : cdOK ord mo ma nc (upF mo nc o, upF ma nc a, nc + 1) 1 (fun w => some (if o = 0 then a else w (li ord o a))) := by
  refine ⟨fun p hp => ⟨upF_n (by omega), upF_n (by omega)⟩, ?_, fun p p1 p2 => ?_⟩
  · have := sgM.leaf (ord := ord) (mo := upF mo nc o) (ma := upF ma nc a) (Z := fun _ => True) (i := nc) (by rw [upF_s]; exact h) (by rw [upF_s, upF_s]; exact hl)
    rw [upF_s, upF_s] at this
    exact this
  · dsimp only at p2 ⊢
    have : p = nc := by omega
    rw [this, upF_s, upF_s]
    obtain ⟨l1, l2, l3, l4⟩ := hl
    omega
theorem cd_bin (h1 : cdOK ord mo ma nc c1 d1 f) (h2 : cdOK ord c1.1 c1.2.1 c1.2.2 c2 d2 g) {op : Int} (ho : 5 ≤ op) (ho2 : op < 13) (hd : max d1 (d2 + 1) ≤ d) : cdOK ord mo ma nc (upF c2.1 c2.2.2 (op + 15), upF c2.2.1 c2.2.2 0, c2.2.2 + 1) d (bnF op f g) := by
  have l1 := h1.le
  have l2 := h2.le
  refine ⟨fun p hp => ?_, (sgM.bin (h1.2.1.cg (fun p p1 p2 => ?_)) (h2.2.1.cg (fun p p1 p2 => ?_)) (upF_s) ho ho2).up hd, fun p p1 p2 => ?_⟩
  · dsimp only
    rw [upF_n (by omega), upF_n (by omega), (h2.1 p (by omega)).1, (h2.1 p (by omega)).2]
    exact h1.1 p hp
  · dsimp only
    rw [upF_n (by omega), upF_n (by omega)]
    exact h2.1 p (by omega)
  · dsimp only
    exact ⟨upF_n (by omega), upF_n (by omega)⟩
  · dsimp only at p2 ⊢
    by_cases q : p = c2.2.2
    · rw [q, upF_s, upF_s]; omega
    · rw [upF_n q, upF_n q]
      by_cases q2 : p < c1.2.2
      · rw [(h2.1 p q2).1, (h2.1 p q2).2]; exact h1.2.2 p p1 q2
      · exact h2.2.2 p (by omega) (by omega)
theorem cd_not (h1 : cdOK ord mo ma nc c1 d f) (ht : tst f) : cdOK ord mo ma nc (upF c1.1 c1.2.2 28, upF c1.2.1 c1.2.2 0, c1.2.2 + 1) d (ntF f) := by
  have l1 := h1.le
  refine ⟨fun p hp => ?_, sgM.not (h1.2.1.cg (fun p p1 p2 => ?_)) ht upF_s, fun p p1 p2 => ?_⟩
  · dsimp only
    rw [upF_n (by omega), upF_n (by omega)]
    exact h1.1 p hp
  · dsimp only
    exact ⟨upF_n (by omega), upF_n (by omega)⟩
  · dsimp only at p2 ⊢
    by_cases q : p = c1.2.2
    · rw [q, upF_s, upF_s]; omega
    · rw [upF_n q, upF_n q]; exact h1.2.2 p p1 (by omega)
theorem cd_lp (h1 : cdOK ord mo ma nc c1 d1 f) {o x : Int} (h2 : cdOK ord (upF c1.1 c1.2.2 o) (upF c1.2.1 c1.2.2 0) (c1.2.2 + 1) c2 d2 g) (ho : (o = 29 ∧ x = 0) ∨ (o = 30 ∧ x = 1)) (h4 : c2.2.2 ≤ 400) (hd : max d1 d2 ≤ d) : cdOK ord mo ma nc (c2.1, upF c2.2.1 c1.2.2 (c2.2.2 : Int), c2.2.2) d (anF x f g) := by
  have l1 := h1.le
  have l2 := h2.le
  have e0 := (h2.1 c1.2.2 (by omega)).1
  rw [upF_s] at e0
  refine ⟨fun p hp => ?_, (sgM.lp (h1.2.1.cg (fun p p1 p2 => ?_)) (h2.2.1.cg (fun p p1 p2 => ?_)) (by dsimp only; rw [e0]; exact ho) (by dsimp only; exact upF_s) h4).up hd, fun p p1 p2 => ?_⟩
  · dsimp only
    have e := h2.1 p (by omega)
    rw [upF_n (by omega), upF_n (by omega)] at e
    rw [upF_n (by omega), e.1, e.2]
    exact h1.1 p hp
  · dsimp only
    have e := h2.1 p (by omega)
    rw [upF_n (by omega), upF_n (by omega)] at e
    rw [upF_n (by omega)]
    exact e
  · dsimp only
    exact ⟨rfl, upF_n (by omega)⟩
  · dsimp only at p2 ⊢
    by_cases q : p = c1.2.2
    · rw [q, upF_s, e0]; omega
    · rw [upF_n q]
      by_cases q2 : p < c1.2.2
      · have e := h2.1 p (by omega)
        rw [upF_n (by omega), upF_n (by omega)] at e
        rw [e.1, e.2]; exact h1.2.2 p p1 q2
      · exact h2.2.2 p (by omega) (by omega)
end
