/-! THE CLASS'S MACHINE -/
/-- the binary ones, by the numbers of Text -/
def cOp (op a b : Int) : Option Int :=
  if op = 5 then some (a + b) else if op = 6 then some (a - b) else if op = 7 then some (a * b) else if op = 8 then (if b = 0 then none else some (a.tdiv b)) else if op = 9 then (if b = 0 then none else some (a.tmod b)) else if op = 10 then some (if a < b then 1 else 0) else if op = 11 then some (if b < a then 1 else 0) else some (if a = b then 1 else 0)
def cRg (r : Option Int) : Option Int := match r with
  | none => none
  | some v => if -1000000000 ≤ v ∧ v ≤ 1000000000 then some v else none
/-- what the class's machine does with a stack as a list, top first -/
def rC (st : Nat → Int) (nw : Nat) (w : Nat → Int) (beh : Nat) : Nat → Nat → List Int → Option Int
  | 0, _, _ => none
  | k + 1, p, s => if beh ≤ p then (match s with | [v] => some v | _ => none) else
    if st p % 16 = 0 then (if 64 ≤ s.length then none else rC st nw w beh k (p + 1) (st p / 16 :: s)) else
    if st p % 16 = 1 then (if 64 ≤ s.length then none else if (nw : Int) ≤ st p / 16 then none else rC st nw w beh k (p + 1) (w (st p / 16).toNat :: s)) else
    match s with
    | [] => none
    | b :: s1 =>
      if st p % 16 = 2 then rC st nw w beh k (p + 1) ((if b = 0 then 1 else 0) :: s1) else
      if st p % 16 = 3 then (if b = 0 then rC st nw w beh k (max p ((st p / 16).toNat - 1) + 1) s else rC st nw w beh k (p + 1) s1) else
      if st p % 16 = 4 then (if b = 1 then rC st nw w beh k (max p ((st p / 16).toNat - 1) + 1) s else rC st nw w beh k (p + 1) s1) else
      match s1 with
      | [] => none
      | a :: s2 => match cRg (cOp (st p % 16) a b) with
        | none => none
        | some v => rC st nw w beh k (p + 1) (v :: s2)
/-- a stack in an array -/
def stk (M : zH) (q : Nat) : List Int → Prop
  | [] => True
  | v :: s => mI M q s.length = iI v ∧ zR v ∧ stk M q s
theorem stk.ag {M M' : zH} {q : Nat} {s : List Int} (h : stk M q s) (he : ∀ i, i < s.length → mI M' q i = mI M q i) : stk M' q s := by
  induction s with
  | nil => trivial
  | cons v s ih => exact ⟨(he _ (by simp)).trans h.1, h.2.1, ih h.2.2 (fun i hi => he i (by simp; omega))⟩
theorem stk.push {M : zH} {q : Nat} {s : List Int} (h : stk M q s) {v : Int} (hv : zR v) : stk (setI M q s.length (iI v)) q (v :: s) :=
  ⟨mI_s, hv, h.ag (fun i hi => mI_i (by omega))⟩
def bkC (r : Option Int) : Int32 := match r with
  | none => iI (-2147483648)
  | some v => iI v
section
variable {n : Nat} {E : zE} {S : zS} {M : zH}
/-- a text's steps in the heap -/
def StR (S : zS) (M : zH) (t ts len : Nat) (st : Nat → Int) : Prop := sK S t = 9 ∧ sF S t 0 = some ts ∧ sK S ts = 12 ∧ len ≤ sN S ts ∧ sN S ts ≤ 400 ∧ mI M t 5 = iI (len : Int) ∧ ∀ i, i < len → mI M ts i = iI (st i) ∧ 0 ≤ st i ∧ st i < 100000
def WdR (S : zS) (M : zH) (wq nw : Nat) (w : Nat → Int) : Prop := sK S wq = 12 ∧ sN S wq = nw ∧ nw ≤ 20 ∧ ∀ i, i < nw → mI M wq i = iI (w i) ∧ zR (w i)
def McS (S : zS) (mc q : Nat) : Prop := sK S mc = 2 ∧ sF S mc 0 = some q ∧ sK S q = 12 ∧ sN S q = 64
theorem StR.ag {M' : zH} {t ts len q : Nat} {st : Nat → Int} (h : StR S M t ts len st) (hA : zAg (fun b _ => b = q) M M') (h1 : t ≠ q) (h2 : ts ≠ q) : StR S M' t ts len st :=
  ⟨h.1, h.2.1, h.2.2.1, h.2.2.2.1, h.2.2.2.2.1, by rw [(hA _ _ h1).1]; exact h.2.2.2.2.2.1, fun i hi => by rw [(hA _ _ h2).1]; exact h.2.2.2.2.2.2 i hi⟩
theorem WdR.ag {M' : zH} {wq nw q : Nat} {w : Nat → Int} (h : WdR S M wq nw w) (hA : zAg (fun b _ => b = q) M M') (h1 : wq ≠ q) : WdR S M' wq nw w :=
  ⟨h.1, h.2.1, h.2.2.1, fun i hi => by rw [(hA _ _ h1).1]; exact h.2.2.2 i hi⟩
theorem cRg_zR {r : Option Int} {v : Int} (h : cRg r = some v) : -1000000000 ≤ v ∧ v ≤ 1000000000 := by
  unfold cRg at h
  cases r with
  | none => simp at h
  | some u =>
    simp only at h
    split at h
    · cases h; assumption
    · cases h
theorem zR_mul {a b : Int} (ha : zR a) (hb : zR b) : -4611686018427387904 ≤ a * b ∧ a * b ≤ 4611686018427387904 := by
  obtain ⟨a1, a2⟩ := ha
  obtain ⟨b1, b2⟩ := hb
  have h : (a * b).natAbs ≤ 2147483648 * 2147483648 := by
    rw [Int.natAbs_mul]
    exact Nat.mul_le_mul (by omega) (by omega)
  omega
theorem zR_tdiv {a b : Int} (ha : zR a) : -2147483648 ≤ a.tdiv b ∧ a.tdiv b ≤ 2147483648 := by
  obtain ⟨a1, a2⟩ := ha
  have := Int.natAbs_tdiv_le_natAbs a b
  omega
theorem zR_tmod {a b : Int} (ha : zR a) (hb : b ≠ 0) : -4294967296 ≤ a.tmod b ∧ a.tmod b ≤ 4294967296 := by
  obtain ⟨a1, a2⟩ := ha
  have h1 : (a.tmod b).natAbs ≤ a.natAbs := by
    rw [Int.natAbs_tmod]
    exact Nat.mod_le _ _
  omega
theorem b400 {rec : Nat × Nat × Nat × Int32 × Int32 × Int32 × zH → Option (Int32 × zH)} {mc t wq q : Nat} {x5 : Int} {y6 x7 : Int32} {r : Int} (hm : McS S mc q) (h1 : 1 ≤ x5) (h2 : x5 < 64) (hr1 : -9000000000000000000 ≤ r) (hr2 : r ≤ 9000000000000000000) :
    F_Mc_work_b423 n E S rec mc t wq (iI x5) y6 x7 (jJ r) M = match cRg (some r) with
      | none => some (iI (-2147483648), M)
      | some v => rec (mc, t, wq, iI (x5 - 1), y6, x7 + 1, setI M q (x5 - 1).toNat (iI v)) := by
  unfold F_Mc_work_b423 cRg
  rw [show (iI x5 + -1) = iI (x5 - 1) by rw [iLm1, iI_add]; rfl]
  simp (disch := omega) only [jLG, jJ_neg, ylt, yle]
  by_cases c1 : 1000000000 < r
  · rw [if_pos c1, if_neg (by omega)]; rfl
  · rw [if_neg c1]
    by_cases c2 : -1000000000 ≤ r
    · rw [if_pos c2, if_pos ⟨c2, by omega⟩, pz_gR hm.1 hm.2.1, Option.bind_some, pi_stI hm.2.2.1 hm.2.2.2 (by omega) (by omega) (by decide), Option.bind_some, yI]
      rfl
    · rw [if_neg c2, if_neg (by omega)]; rfl
/-- the binary step -/
theorem b170 {rec : Nat × Nat × Nat × Int32 × Int32 × Int32 × zH → Option (Int32 × zH)} {mc t wq q : Nat} {x5 op a b : Int} {y6 x7 x9 : Int32} (hm : McS S mc q) (h1 : 1 ≤ x5) (h2 : x5 < 64) (ho : 5 ≤ op) (ho2 : op < 16) (ha : zR a) (hb : zR b) :
    F_Mc_work_b182 n E S rec mc t wq (iI x5) y6 x7 (iI op) x9 (jJ b) (jJ a) M = match cRg (cOp op a b) with
      | none => some (iI (-2147483648), M)
      | some v => rec (mc, t, wq, iI (x5 - 1), y6, x7 + 1, setI M q (x5 - 1).toNat (iI v)) := by
  obtain ⟨a1, a2⟩ := ha
  obtain ⟨b1, b2⟩ := hb
  have hmul := zR_mul ⟨a1, a2⟩ ⟨b1, b2⟩
  have hdiv := zR_tdiv (b := b) ⟨a1, a2⟩
  have hrem := zR_tmod (b := b) ⟨a1, a2⟩
  unfold F_Mc_work_b182 cOp
  have E2 : ∀ m : Int, 0 ≤ m → m < 16 → (iI op = iI m) = (op = m) := fun m h1 h2 => xeq (by omega) (by omega) (by omega) (by omega)
  have Eb : (jJ b = 0) = (b = 0) := by rw [jL0]; exact yeq (by omega) (by omega) (by omega) (by omega)
  have Eab : (jJ a = jJ b) = (a = b) := yeq (by omega) (by omega) (by omega) (by omega)
  have Lab : (jJ a ≤ jJ b) = (a ≤ b) := yle (by omega) (by omega) (by omega) (by omega)
  have Lba : (jJ b ≤ jJ a) = (b ≤ a) := yle (by omega) (by omega) (by omega) (by omega)
  simp only [show (2 : Int32) = iI 2 from rfl, iL3, iL4, iL5, iL6, iL7, iL8, iL9, iL10, iL11, E2 2 (by decide) (by decide), E2 3 (by decide) (by decide), E2 4 (by decide) (by decide), E2 5 (by decide) (by decide), E2 6 (by decide) (by decide), E2 7 (by decide) (by decide), E2 8 (by decide) (by decide), E2 9 (by decide) (by decide), E2 10 (by decide) (by decide), E2 11 (by decide) (by decide), Eb, Eab, Lab, Lba, jJ_add, jJ_sub, jJ_mul]
  rw [if_neg (by omega), if_neg (by omega), if_neg (by omega)]
  by_cases c5 : op = 5
  · simp only [if_pos c5]
    exact b400 hm h1 h2 (by omega) (by omega)
  rw [if_neg c5, if_neg c5, if_neg c5]
  by_cases c6 : op = 6
  · rw [if_pos c6, if_pos c6]
    exact b400 hm h1 h2 (by omega) (by omega)
  rw [if_neg c6, if_neg c6]
  by_cases c7 : op = 7
  · rw [if_pos c7, if_pos c7, b400 hm h1 h2 (by omega) (by omega)]
  rw [if_neg c7, if_neg c7]
  by_cases c8 : op = 8
  · rw [if_pos c8, if_pos c8]
    by_cases z : b = 0
    · rw [if_pos z, if_pos z]; rfl
    · rw [if_neg z, if_neg z, if_neg (by omega), jJ_div (by omega) (by omega) (by omega) (by omega) z, Option.bind_some]
      exact b400 hm h1 h2 (by omega) (by omega)
  rw [if_neg c8, if_neg c8]
  by_cases c9 : op = 9
  · simp only [if_pos c9]
    by_cases z : b = 0
    · rw [if_pos z, if_pos z]; rfl
    · have := hrem z
      rw [if_neg z, if_neg z, jJ_rem (by omega) (by omega) (by omega) (by omega) z, Option.bind_some]
      exact b400 hm h1 h2 (by omega) (by omega)
  rw [if_neg c9, if_neg c9]
  by_cases c10 : op = 10
  · rw [if_pos c10, if_pos c10]
    by_cases z : b ≤ a
    · rw [if_pos z, if_neg (by omega)]
      exact b400 (r := 0) hm h1 h2 (by omega) (by omega)
    · rw [if_neg z, if_pos (by omega)]
      exact b400 (r := 1) hm h1 h2 (by omega) (by omega)
  rw [if_neg c10, if_neg c10]
  by_cases c11 : op = 11
  · rw [if_pos c11, if_pos c11]
    by_cases z : a ≤ b
    · rw [if_pos z, if_neg (by omega)]
      exact b400 (r := 0) hm h1 h2 (by omega) (by omega)
    · rw [if_neg z, if_pos (by omega)]
      exact b400 (r := 1) hm h1 h2 (by omega) (by omega)
  rw [if_neg c11, if_neg c11]
  by_cases z : a = b
  · rw [if_pos z, if_pos z]
    exact b400 (r := 1) hm h1 h2 (by omega) (by omega)
  · rw [if_neg z, if_neg z]
    exact b400 (r := 0) hm h1 h2 (by omega) (by omega)
/-- the ones with one -/
theorem b170u {rec : Nat × Nat × Nat × Int32 × Int32 × Int32 × zH → Option (Int32 × zH)} {mc t wq q p : Nat} {x5 op b wi : Int} {y6 : Int32} {t0 : Int64} (hm : McS S mc q) (h1 : 0 ≤ x5) (h2 : x5 < 64) (ho : op = 2 ∨ op = 3 ∨ op = 4) (hb : zR b) (hp : p ≤ 200000) (hw0 : 0 ≤ wi) (hw : wi < 100000) :
    F_Mc_work_b182 n E S rec mc t wq (iI x5) y6 (iI (p : Int)) (iI op) (iI wi) (jJ b) t0 M = if op = 2 then rec (mc, t, wq, iI x5, y6, iI ((p + 1 : Nat) : Int), setI M q x5.toNat (iI (if b = 0 then 1 else 0)))
      else if b = (if op = 4 then 1 else 0) then rec (mc, t, wq, iI x5, y6, iI ((max p (wi.toNat - 1) + 1 : Nat) : Int), M) else rec (mc, t, wq, iI (x5 - 1), y6, iI ((p + 1 : Nat) : Int), M) := by
  obtain ⟨b1, b2⟩ := hb
  have hp1 : iI (p : Int) + 1 = iI ((p + 1 : Nat) : Int) := by rw [iL1, iI_add]; rfl
  have hx1 : (iI x5 + -1) = iI (x5 - 1) := by rw [iLm1, iI_add]; rfl
  have Eb : (jJ b = 0) = (b = 0) := by rw [jL0]; exact yeq (by omega) (by omega) (by omega) (by omega)
  have Eb0 : (jJ b = Int32.toInt64 0) = (b = 0) := by rw [iL0, xJ (by omega) (by omega)]; exact yeq (by omega) (by omega) (by omega) (by omega)
  have Eb1 : (jJ b = Int32.toInt64 1) = (b = 1) := by rw [iL1, xJ (by omega) (by omega)]; exact yeq (by omega) (by omega) (by omega) (by omega)
  have hmx : (if iI wi ≤ iI (p : Int) then rec (mc, t, wq, iI x5, y6, iI (p : Int) + 1, M) else rec (mc, t, wq, iI x5, y6, iI wi - 1 + 1, M)) = rec (mc, t, wq, iI x5, y6, iI ((max p (wi.toNat - 1) + 1 : Nat) : Int), M) := by
    simp only [xle (x := wi) (y := (p : Int)) (by omega) (by omega) (by omega) (by omega)]
    by_cases c : wi ≤ (p : Int)
    · rw [if_pos c, hp1, show max p (wi.toNat - 1) + 1 = p + 1 by omega]
    · rw [if_neg c, iL1, iI_sub, iI_add, show ((max p (wi.toNat - 1) + 1 : Nat) : Int) = wi - 1 + 1 by omega]
  unfold F_Mc_work_b182
  rcases ho with rfl | rfl | rfl
  · rw [if_pos (show iI 2 = 2 from rfl), if_pos (show (2 : Int) = 2 from rfl), pz_gR hm.1 hm.2.1, Option.bind_some]
    simp only [Eb]
    unfold F_Mc_work_b254 F_Mc_work_b457
    by_cases z : b = 0
    · rw [if_pos z, if_pos z, pi_stI hm.2.2.1 hm.2.2.2 (by omega) (by omega) (by decide), Option.bind_some, hp1]
      rfl
    · rw [if_neg z, if_neg z, pi_stI hm.2.2.1 hm.2.2.2 (by omega) (by omega) (by decide), Option.bind_some, hp1]
      rfl
  · rw [if_neg (show ¬ iI 3 = 2 by decide), if_pos (show iI 3 = 3 from rfl), if_neg (show ¬ iI 3 = 4 by decide), if_neg (show ¬ (3 : Int) = 2 by decide)]
    unfold F_Mc_work_b271 F_Mc_work_b292 F_Mc_work_b457
    simp only [Eb0]
    rw [if_neg (show ¬ (3 : Int) = 4 by decide)]
    by_cases z : b = 0
    · rw [if_pos z, if_pos z]; exact hmx
    · rw [if_neg z, if_neg z, hx1, hp1]
  · rw [if_neg (show ¬ iI 4 = 2 by decide), if_neg (show ¬ iI 4 = 3 by decide), if_neg (show ¬ (4 : Int) = 2 by decide)]
    simp only [if_pos (show iI 4 = 4 from rfl)]
    unfold F_Mc_work_b271 F_Mc_work_b292 F_Mc_work_b457
    simp only [Eb1, if_true]
    by_cases z : b = 1
    · rw [if_pos z, if_pos z]; exact hmx
    · rw [if_neg z, if_neg z, hx1, hp1]
theorem ite3 {α : Type} {op : Int} (ho : op = 2 ∨ op = 3 ∨ op = 4) (A B C D D' : α) : (if op = 2 then A else if op = 3 then B else if op = 4 then C else D) = (if op = 2 then A else if op = 3 then B else if op = 4 then C else D') := by
  rcases ho with rfl | rfl | rfl
  · rw [if_pos rfl, if_pos rfl]
  · rw [if_neg (show ¬ (3 : Int) = 2 by decide), if_neg (show ¬ (3 : Int) = 2 by decide), if_pos (show (3 : Int) = 3 by decide), if_pos (show (3 : Int) = 3 by decide)]
  · rw [if_neg (show ¬ (4 : Int) = 2 by decide), if_neg (show ¬ (4 : Int) = 2 by decide), if_neg (show ¬ (4 : Int) = 3 by decide), if_neg (show ¬ (4 : Int) = 3 by decide), if_pos (show (4 : Int) = 4 by decide), if_pos (show (4 : Int) = 4 by decide)]
/-- a push -/
theorem b96 {rec : Nat × Nat × Nat × Int32 × Int32 × Int32 × zH → Option (Int32 × zH)} {mc t wq q nw : Nat} {w : Nat → Int} {x5 wi : Int} {y6 x7 : Int32} (b : Bool) (hm : McS S mc q) (hW : WdR S M wq nw w) (h1 : -1 ≤ x5) (h2 : x5 ≤ 63) (hw0 : 0 ≤ wi) (hw : wi < 100000) :
    F_Mc_work_b73 n E S rec mc t wq (iI x5) y6 x7 (iI (if b then 1 else 0)) (iI wi) M = if 64 ≤ x5 + 1 ∨ (b = true ∧ (nw : Int) ≤ wi) then some (iI (-2147483648), M) else rec (mc, t, wq, iI (x5 + 1), y6, x7 + 1, setI M q (x5 + 1).toNat (iI (if b then w wi.toNat else wi))) := by
  have hnw := hW.2.2.1
  unfold F_Mc_work_b73 F_Mc_work_b108 F_Mc_work_b105
  rw [pz_gR hm.1 hm.2.1, Option.bind_some, pz_len hm.2.2.1 hm.2.2.2, Option.bind_some, ← iI_nat]
  cases b with
  | true =>
    simp (disch := omega) only [iL1, iL0, iI_add, xle, xlt, if_true, if_pos, true_and]
    by_cases c : 64 ≤ x5 + 1
    · rw [if_pos (by omega), if_pos (Or.inl c)]; rfl
    · rw [if_neg (by omega), if_neg (by omega), pz_len hW.1 hW.2.1, Option.bind_some, ← iI_nat]
      simp (disch := omega) only [xlt]
      by_cases c2 : wi < nw
      · rw [if_pos c2, if_neg (by omega), Option.bind_some, pi_ldI hW.1 hW.2.1 hw0 c2 (by omega), Option.bind_some, (hW.2.2.2 wi.toNat (by omega)).1]
        unfold F_Mc_work_b130 F_Mc_work_b457
        rw [pi_stI hm.2.2.1 hm.2.2.2 (by omega) (by omega) (by decide), Option.bind_some]
        rfl
      · rw [if_neg c2, if_pos (Or.inr (by omega))]; rfl
  | false =>
    have e0 : ((if (false = true) then 1 else 0 : Int)) = 0 := rfl
    have e1 : ((if (false = true) then w wi.toNat else wi : Int)) = wi := rfl
    rw [e0, e1]
    simp (disch := omega) only [iL1, iL0, iI_add, xle, xlt, xeq, if_neg, false_and, or_false, Bool.false_eq_true]
    by_cases c : 64 ≤ x5 + 1
    · rw [if_pos (by omega), if_pos c]; rfl
    · rw [if_neg (by omega), if_neg c, Option.bind_some]
      unfold F_Mc_work_b130 F_Mc_work_b457
      rw [pi_stI hm.2.2.1 hm.2.2.2 (by omega) (by omega) (by decide), Option.bind_some]
      rfl
set_option maxHeartbeats 4000000 in
theorem work_run {mc t wq q ts len nw beh : Nat} {st w : Nat → Int} (hm : McS S mc q) (hq1 : t ≠ q) (hq2 : ts ≠ q) (hq3 : wq ≠ q) (hbl : beh ≤ len) :
    ∀ (k kk p : Nat) (s : List Int) (M : zH), k ≤ kk → beh - p < k → StR S M t ts len st → WdR S M wq nw w → stk M q s → s.length ≤ 64 → p ≤ 200000 →
    ∃ M', zfix (fun r20 s => F_Mc_work_L32 n E S r20 s.1 s.2.1 s.2.2.1 s.2.2.2.1 s.2.2.2.2.1 s.2.2.2.2.2.1 s.2.2.2.2.2.2) kk (mc, t, wq, iI ((s.length : Int) - 1), iI (beh : Int), iI (p : Int), M) = some (bkC (rC st nw w beh k p s), M') ∧ zAg (fun b _ => b = q) M M' := by
  intro k
  induction k with
  | zero => intro kk p s M _ h; omega
  | succ k ih =>
    intro kk p s M hkk hp hSt hW hs hsl hpp
    obtain ⟨kk, rfl⟩ : ∃ j, kk = j + 1 := ⟨kk - 1, by omega⟩
    rw [zfix_s]
    show ∃ M', F_Mc_work_L32 n E S _ mc t wq (iI ((s.length : Int) - 1)) (iI (beh : Int)) (iI (p : Int)) M = _ ∧ _
    have hlen : len ≤ 400 := by have := hSt.2.2.2.1; have := hSt.2.2.2.2.1; omega
    have ihk := fun p s M => ih kk p s M (by omega)
    generalize zfix (fun r20 s => F_Mc_work_L32 n E S r20 s.1 s.2.1 s.2.2.1 s.2.2.2.1 s.2.2.2.2.1 s.2.2.2.2.2.1 s.2.2.2.2.2.2) kk = rec at ihk ⊢
    have hgo : ∀ (p' : Nat) (s' : List Int) (M1 : zH), beh - p' < k → p' ≤ 200000 → s'.length ≤ 64 → zAg (fun b _ => b = q) M M1 → stk M1 q s' → ∃ M', rec (mc, t, wq, iI ((s'.length : Int) - 1), iI (beh : Int), iI (p' : Int), M1) = some (bkC (rC st nw w beh k p' s'), M') ∧ zAg (fun b _ => b = q) M M' := by
      intro p' s' M1 h1 h2 h3 hA hs'
      obtain ⟨M', e, hA'⟩ := ihk p' s' M1 h1 (hSt.ag hA hq1 hq2) (hW.ag hA hq3) hs' h3 h2
      exact ⟨M', e, hA.trans hA'⟩
    unfold F_Mc_work_L32 rC
    by_cases hb : beh ≤ p
    · rw [if_pos (by rw [xle (by omega) (by omega) (by omega) (by omega)]; omega), if_pos hb]
      rcases s with _ | ⟨v, _ | ⟨u, s⟩⟩
      · rw [if_neg (by rw [iL0, xeq (by simp) (by simp) (by simp) (by simp)]; simp)]
        exact ⟨M, rfl, zAg.rfl'⟩
      · rw [if_pos (by rfl), pz_gR hm.1 hm.2.1, Option.bind_some, iL0, pi_ldI hm.2.2.1 hm.2.2.2 (by omega) (by omega) (by decide), Option.bind_some]
        refine ⟨M, ?_, zAg.rfl'⟩
        have := hs.1
        rw [show (Int.toNat 0) = ([] : List Int).length from rfl, this]
        rfl
      · rw [if_neg (by
          have := hsl
          simp only [List.length_cons] at this
          rw [iL0, xeq (by simp; omega) (by simp; omega) (by simp) (by simp)]; simp; omega)]
        exact ⟨M, rfl, zAg.rfl'⟩
    · obtain ⟨h1, h2, h3⟩ := hSt.2.2.2.2.2.2 p (by omega)
      have hnts : sN S ts ≤ 100000 := by have := hSt.2.2.2.2.1; omega
      rw [if_neg (by rw [xle (by omega) (by omega) (by omega) (by omega)]; omega), if_neg hb, pz_gR hSt.1 hSt.2.1, Option.bind_some, pi_ldI hSt.2.2.1 rfl (by omega) (by have := hSt.2.2.2.1; omega) hnts, Option.bind_some, Option.bind_some, Int.toNat_natCast, h1]
      have hd0 : 0 ≤ st p / 16 := by omega
      have hd1 : st p / 16 < 100000 := by omega
      rw [show iI (st p) &&& (15 : Int32) = iI (st p % 16) from xand15, show iI (st p) >>> ((4 : Int32) &&& (31 : Int32)) = iI (st p / 16) by
        rw [show ((4 : Int32) &&& (31 : Int32)) = (iI 4 &&& iI 31) from rfl, xshr (by omega) (by omega) (by omega) (by omega)]; rfl]
      have hm0 : 0 ≤ st p % 16 := by omega
      have hm1 : st p % 16 < 16 := by omega
      generalize st p / 16 = wi at *
      generalize st p % 16 = op at *
      have E2 : ∀ m : Int, 0 ≤ m → m < 16 → (iI op = iI m) = (op = m) := fun m h1 h2 => xeq (by omega) (by omega) (by omega) (by omega)
      simp only [iL0, iL1, show (4 : Int32) = iI 4 from rfl, E2 0 (by decide) (by decide), E2 1 (by decide) (by decide), xlt (x := 4) (y := op) (by omega) (by omega) (by omega) (by omega)]
      have hp1 : iI (p : Int) + 1 = iI ((p + 1 : Nat) : Int) := by rw [iL1, iI_add]; rfl
      by_cases c0 : op = 0
      · subst c0
        rw [if_pos rfl, if_pos rfl]
        have e := b96 (n := n) (E := E) (rec := rec) (t := t) (y6 := iI (beh : Int)) (x7 := iI (p : Int)) (x5 := (s.length : Int) - 1) (wi := wi) false hm hW (by omega) (by omega) hd0 hd1
        rw [show (if (false = true) then (1 : Int) else 0) = 0 from rfl, show (if (false = true) then w wi.toNat else wi) = wi from rfl] at e
        rw [e]
        by_cases c : 64 ≤ s.length
        · rw [if_pos (Or.inl (by omega)), if_pos c]
          exact ⟨M, rfl, zAg.rfl'⟩
        · rw [if_neg (by simp; omega), if_neg c, hp1, show ((s.length : Int) - 1 + 1).toNat = s.length by omega, show ((s.length : Int) - 1 + 1) = (((wi :: s).length : Nat) : Int) - 1 by simp]
          exact hgo (p + 1) (wi :: s) _ (by omega) (by omega) (by simp; omega) (zAg.rfl'.setI rfl) (hs.push (zR_of (by omega) (by omega)))
      by_cases c1 : op = 1
      · subst c1
        rw [if_neg c0, if_pos rfl, if_neg c0, if_pos rfl]
        have e := b96 (n := n) (E := E) (rec := rec) (t := t) (y6 := iI (beh : Int)) (x7 := iI (p : Int)) (x5 := (s.length : Int) - 1) (wi := wi) true hm hW (by omega) (by omega) hd0 hd1
        rw [show (if (true = true) then (1 : Int) else 0) = 1 from rfl, show (if (true = true) then w wi.toNat else wi) = w wi.toNat from rfl] at e
        rw [e]
        by_cases c : 64 ≤ s.length
        · rw [if_pos (Or.inl (by omega)), if_pos c]
          exact ⟨M, rfl, zAg.rfl'⟩
        · by_cases c2 : (nw : Int) ≤ wi
          · rw [if_pos (Or.inr ⟨rfl, c2⟩), if_neg c, if_pos c2]
            exact ⟨M, rfl, zAg.rfl'⟩
          · rw [if_neg (by simp; omega), if_neg c, if_neg c2, hp1, show ((s.length : Int) - 1 + 1).toNat = s.length by omega, show ((s.length : Int) - 1 + 1) = (((w wi.toNat :: s).length : Nat) : Int) - 1 by simp]
            exact hgo (p + 1) (w wi.toNat :: s) _ (by omega) (by omega) (by simp; omega) (zAg.rfl'.setI rfl) (hs.push (hW.2.2.2 wi.toNat (by omega)).2)
      rw [if_neg c0, if_neg c1, if_neg c0, if_neg c1]
      unfold F_Mc_work_b147
      have E3 : ∀ m : Int, 0 ≤ m → m ≤ 1 → (iI m ≤ iI ((s.length : Int) - 1)) = (m ≤ (s.length : Int) - 1) := fun m h1 h2 => xle (by omega) (by omega) (by omega) (by omega)
      rcases s with _ | ⟨b, s1⟩
      · refine ⟨M, ?_, zAg.rfl'⟩
        have q0 : ¬ ((0 : Int) ≤ (([] : List Int).length : Int) - 1) := by simp
        have q1 : ¬ ((1 : Int) ≤ (([] : List Int).length : Int) - 1) := by simp
        by_cases c4 : 4 < op
        · rw [if_pos c4, if_neg (by rw [E3 1 (by decide) (by decide)]; exact q1)]; rfl
        · rw [if_neg c4, if_neg (by rw [E3 0 (by decide) (by decide)]; exact q0)]; rfl
      · obtain ⟨hb1, hb2, hb3⟩ := hs
        have hl : (((b :: s1).length : Nat) : Int) - 1 = (s1.length : Int) := by simp
        have hsl' : s1.length + 1 ≤ 64 := by simpa using hsl
        rw [hl] at E3 ⊢
        have hld : zldI S M q (iI (s1.length : Int)) = some (iI b) := by
          rw [pi_ldI hm.2.2.1 hm.2.2.2 (by omega) (by omega) (by decide), Int.toNat_natCast, hb1]
        have hle : (iI (s1.length : Int) ≤ 0) = (s1.length = 0) := by
          rw [iL0, xle (by omega) (by omega) (by omega) (by omega)]
          exact propext ⟨fun h => by omega, fun h => by omega⟩
        by_cases c4 : 4 < op
        · rw [if_pos c4]
          simp only [E3 1 (by decide) (by decide)]
          have n2 : ¬ op = 2 := by omega
          have n3 : ¬ op = 3 := by omega
          have n4 : ¬ op = 4 := by omega
          rw [if_neg n2, if_neg n3, if_neg n4]
          rcases s1 with _ | ⟨a, s2⟩
          · rw [if_neg (by simp)]
            exact ⟨M, rfl, zAg.rfl'⟩
          · obtain ⟨ha1, ha2, ha3⟩ := hb3
            have hl2 : (((a :: s2).length : Nat) : Int) - 1 = (s2.length : Int) := by simp
            have hl3 : (((a :: s2).length : Nat) : Int) = (s2.length : Int) + 1 := by simp
            have hsl3 : s2.length + 2 ≤ 64 := by simpa using hsl'
            rw [if_pos (by omega), pz_gR hm.1 hm.2.1, Option.bind_some, hld, Option.bind_some]
            simp only [hle]
            rw [if_neg (by simp)]
            simp only [iL1, iI_sub]
            rw [hl2, pi_ldI hm.2.2.1 hm.2.2.2 (by omega) (by omega) (by decide), Int.toNat_natCast, ha1, Option.bind_some, xJ hb2.1 hb2.2, xJ ha2.1 ha2.2, b170 hm (by omega) (by omega) (by omega) hm1 ha2 hb2]
            cases hr : cRg (cOp op a b) with
            | none => exact ⟨M, rfl, zAg.rfl'⟩
            | some v =>
              have hv := cRg_zR hr
              show ∃ M', rec _ = _ ∧ _
              rw [hp1, hl2, Int.toNat_natCast, show (s2.length : Int) = (((v :: s2).length : Nat) : Int) - 1 by simp]
              exact hgo (p + 1) (v :: s2) _ (by omega) (by omega) (by simp; omega) (zAg.rfl'.setI rfl) (ha3.push (zR_of (by omega) (by omega)))
        · rw [if_neg c4]
          simp only [E3 0 (by decide) (by decide)]
          rw [if_pos (by omega), pz_gR hm.1 hm.2.1, Option.bind_some, hld, Option.bind_some, xJ hb2.1 hb2.2]
          have key : ∀ t0 : Int64, ∃ M', F_Mc_work_b182 n E S rec mc t wq (iI (s1.length : Int)) (iI (beh : Int)) (iI (p : Int)) (iI op) (iI wi) (jJ b) t0 M = some (bkC (if op = 2 then rC st nw w beh k (p + 1) ((if b = 0 then 1 else 0) :: s1) else
      if op = 3 then (if b = 0 then rC st nw w beh k (max p (wi.toNat - 1) + 1) (b :: s1) else rC st nw w beh k (p + 1) s1) else
      if op = 4 then (if b = 1 then rC st nw w beh k (max p (wi.toNat - 1) + 1) (b :: s1) else rC st nw w beh k (p + 1) s1) else none), M') ∧ zAg (fun b _ => b = q) M M' := by
            intro t0
            have ho : op = 2 ∨ op = 3 ∨ op = 4 := by omega
            rw [b170u hm (by omega) (by omega) ho hb2 hpp hd0 hd1]
            have kpop : ∃ M', rec (mc, t, wq, iI ((s1.length : Int) - 1), iI (beh : Int), iI ((p + 1 : Nat) : Int), M) = some (bkC (rC st nw w beh k (p + 1) s1), M') ∧ zAg (fun b _ => b = q) M M' := hgo (p + 1) s1 M (by omega) (by omega) (by omega) zAg.rfl' hb3
            have kleap : ∃ M', rec (mc, t, wq, iI (s1.length : Int), iI (beh : Int), iI ((max p (wi.toNat - 1) + 1 : Nat) : Int), M) = some (bkC (rC st nw w beh k (max p (wi.toNat - 1) + 1) (b :: s1)), M') ∧ zAg (fun b _ => b = q) M M' := by
              rw [← hl]
              exact hgo (max p (wi.toNat - 1) + 1) (b :: s1) M (by omega) (by omega) (by simpa using hsl) zAg.rfl' ⟨hb1, hb2, hb3⟩
            rcases ho with rfl | rfl | rfl
            · rw [if_pos rfl, if_pos rfl, Int.toNat_natCast]
              have hv : zR (if b = 0 then 1 else 0) := by split <;> exact zR_of (by omega) (by omega)
              have := hgo (p + 1) ((if b = 0 then 1 else 0) :: s1) (setI M q s1.length (iI (if b = 0 then 1 else 0))) (by omega) (by omega) (by simpa using hsl) (zAg.rfl'.setI rfl) (hb3.push hv)
              rw [show ((((if b = 0 then 1 else 0) :: s1 : List Int).length : Nat) : Int) - 1 = (s1.length : Int) by simp] at this
              exact this
            · by_cases z : b = 0
              · have e1 : (b = if (3 : Int) = 4 then 1 else 0) := z
                rw [if_neg (show ¬ (3 : Int) = 2 by decide), if_neg (show ¬ (3 : Int) = 2 by decide), if_pos e1, if_pos (show (3 : Int) = 3 by decide), if_pos z]
                exact kleap
              · have e1 : ¬ (b = if (3 : Int) = 4 then 1 else 0) := z
                rw [if_neg (show ¬ (3 : Int) = 2 by decide), if_neg (show ¬ (3 : Int) = 2 by decide), if_neg e1, if_pos (show (3 : Int) = 3 by decide), if_neg z]
                exact kpop
            · by_cases z : b = 1
              · have e1 : (b = if (4 : Int) = 4 then 1 else 0) := z
                rw [if_neg (show ¬ (4 : Int) = 2 by decide), if_neg (show ¬ (4 : Int) = 2 by decide), if_neg (show ¬ (4 : Int) = 3 by decide), if_pos e1, if_pos (show (4 : Int) = 4 by decide), if_pos z]
                exact kleap
              · have e1 : ¬ (b = if (4 : Int) = 4 then 1 else 0) := z
                rw [if_neg (show ¬ (4 : Int) = 2 by decide), if_neg (show ¬ (4 : Int) = 2 by decide), if_neg (show ¬ (4 : Int) = 3 by decide), if_neg e1, if_pos (show (4 : Int) = 4 by decide), if_neg z]
                exact kpop
          have ho : op = 2 ∨ op = 3 ∨ op = 4 := by omega
          rw [ite3 ho _ _ _ _ none]
          by_cases z : iI (s1.length : Int) ≤ 0
          · rw [if_pos z]; exact key 0
          · rw [if_neg z]
            have hz : ¬ s1.length = 0 := fun q => z (by rw [hle]; exact q)
            rw [iL1, iI_sub, pi_ldI hm.2.2.1 hm.2.2.2 (by omega) (by omega) (by decide), Option.bind_some]
            exact key _
end
