/-! THE MODEL'S MACHINE -/
/-- which word a leaf names -/
def li (ord : Bool) (op arg : Int) : Nat := if ord then (if op < 5 then (op - 1).toNat else if op = 5 then 4 + arg.toNat else if op = 6 then 8 + arg.toNat else 11 + arg.toNat) else (op - 1).toNat
def lv (ord : Bool) (op arg : Int) : Prop := 0 ≤ op ∧ 0 ≤ arg ∧ arg ≤ 1000 ∧ (op = 0 ∨ (ord = false ∧ op ≤ 9) ∨ (ord = true ∧ (op < 5 ∨ (op = 5 ∧ arg < 4) ∨ (op = 6 ∧ arg < 3) ∨ (op = 7 ∧ arg < 8))))
/-- the model's machine on a list; none: it is stuck; some none: broken -/
noncomputable def rM (ord : Bool) (mo ma : Nat → Int) (w : Nat → Int) (last : Nat) : Nat → Nat → List Int → Option (Option Int)
  | 0, _, _ => none
  | f + 1, k, s => if last ≤ k then (match s with | [v] => some (some v) | _ => none) else
    if mo k < 20 then (@ite _ (lv ord (mo k) (ma k) ∧ s.length < 400) (Classical.propDecidable _) (rM ord mo ma w last f (k + 1) ((if mo k = 0 then ma k else w (li ord (mo k) (ma k))) :: s)) none) else
    if mo k < 28 then (match s with
      | b :: a :: s2 => (match cRg (cOp (mo k - 15) a b) with
        | none => some none
        | some v => rM ord mo ma w last f (k + 1) (v :: s2))
      | _ => none) else
    if mo k = 28 then (match s with
      | b :: s1 => if b = 0 ∨ b = 1 then rM ord mo ma w last f (k + 1) ((1 - b) :: s1) else none
      | _ => none) else
    match s with
    | b :: s1 => if b = (if mo k = 29 then 0 else 1) then (if (k : Int) < ma k ∧ ma k ≤ 400 then rM ord mo ma w last f (ma k).toNat s else none) else rM ord mo ma w last f (k + 1) s1
    | [] => none
def stj (M : zH) (q : Nat) : List Int → Prop
  | [] => True
  | v :: s => mJ M q s.length = jJ v ∧ zR v ∧ stj M q s
theorem stj.ag {M M' : zH} {q : Nat} {s : List Int} (h : stj M q s) (he : ∀ i, i < s.length → mJ M' q i = mJ M q i) : stj M' q s := by
  induction s with
  | nil => trivial
  | cons v s ih => exact ⟨(he _ (by simp)).trans h.1, h.2.1, ih h.2.2 (fun i hi => he i (by simp; omega))⟩
theorem stj.push {M : zH} {q : Nat} {s : List Int} (h : stj M q s) {v : Int} (hv : zR v) : stj (setJ M q s.length (jJ v)) q (v :: s) :=
  ⟨by rw [mJ_ite, if_pos ⟨rfl, rfl⟩], hv, h.ag (fun i hi => by rw [mJ_ite, if_neg (fun q => by omega)])⟩
section
variable {n : Nat} {E : zE} {S : zS} {M : zH} {B : Nat}
/-- the model's code and words, as reckonAll sees them -/
def McR (M : zH) (B : Nat) (ord : Bool) (mo ma : Nat → Int) (w : Nat → Int) (last : Nat) : Prop :=
  mI M (B + 105) 20 = (if ord then 1 else 0) ∧ last ≤ 400 ∧
  (ord = false → ∃ lw : Nat, mI M (B + 105) 34 = iI (lw : Int) ∧ lw + 98 + 2 * last ≤ 5480 ∧ (∀ k, k < last → mI M (B + 107) (lw + 98 + 2 * k) = iI (mo k) ∧ mI M (B + 107) (lw + 98 + 2 * k + 1) = iI (ma k)) ∧ ∀ i, i < 9 → mJ M (B + 123) (i + 1) = jJ (w i) ∧ zB (w i)) ∧
  (ord = true → (∀ k, k < last → mI M (B + 116) k = iI (mo k) ∧ mI M (B + 117) k = iI (ma k)) ∧ (∀ i, i < 4 → mJ M (B + 124) (i + 1) = jJ (w i)) ∧ (∀ r, r < 4 → mI M (B + 107) (8 + r) = iI (w (4 + r))) ∧ (∃ nb : Nat, nb ≤ 3 ∧ mI M (B + 107) 0 = iI (nb : Int) ∧ (∀ b, b < nb → mI M (B + 107) (48 + b) = iI (w (8 + b))) ∧ ∀ b, nb ≤ b → b < 3 → w (8 + b) = -1) ∧ (∀ f, f < 8 → mI M (B + 126) f = iI (w (11 + f))) ∧ ∀ i, i < 19 → zB (w i)) ∧
  ∀ k, k < last → 0 ≤ mo k ∧ mo k ≤ 30 ∧ 0 ≤ ma k ∧ ma k ≤ 1000
/-- what reckonAll changes -/
def rkX (B : Nat) : Nat → Nat → Prop := fun b j => b = B + 125 ∨ (b = B + 105 ∧ (j = 38 ∨ j = 39))
theorem McR.ag {M' : zH} {ord : Bool} {mo ma w : Nat → Int} {last : Nat} (h : McR M B ord mo ma w last) (hA : zAg (rkX B) M M') : McR M' B ord mo ma w last := by
  obtain ⟨h1, h2, h3, h4, h5⟩ := h
  have q : ∀ b j, (b = B + 105 ∧ j = 20) ∨ (b = B + 105 ∧ j = 34) ∨ b = B + 107 ∨ b = B + 123 ∨ b = B + 116 ∨ b = B + 117 ∨ b = B + 124 ∨ b = B + 126 → mI M' b j = mI M b j ∧ mJ M' b j = mJ M b j := fun b j hb => by
    have := hA b j (fun hx => by unfold rkX at hx; omega)
    exact ⟨this.1, this.2.1⟩
  refine ⟨by rw [(q _ _ (by omega)).1]; exact h1, h2, fun o => ?_, fun o => ?_, h5⟩
  · obtain ⟨lw, a1, a2, a3, a4⟩ := h3 o
    refine ⟨lw, by rw [(q _ _ (by omega)).1]; exact a1, a2, fun k hk => ?_, fun i hi => ?_⟩
    · rw [(q _ _ (by omega)).1, (q _ _ (by omega)).1]; exact a3 k hk
    · rw [(q _ _ (by omega)).2]; exact a4 i hi
  · obtain ⟨a1, a2, a3, ⟨nb, b1, b2, b3, b4⟩, a5, a6⟩ := h4 o
    refine ⟨fun k hk => ?_, fun i hi => ?_, fun r hr => ?_, ⟨nb, b1, ?_, fun b hb => ?_, b4⟩, fun f hf => ?_, a6⟩
    · rw [(q _ _ (by omega)).1, (q _ _ (by omega)).1]; exact a1 k hk
    · rw [(q _ _ (by omega)).2]; exact a2 i hi
    · rw [(q _ _ (by omega)).1]; exact a3 r hr
    · rw [(q _ _ (by omega)).1]; exact b2
    · rw [(q _ _ (by omega)).1]; exact b3 b hb
    · rw [(q _ _ (by omega)).1]; exact a5 f hf
theorem s_in {x u v : Int} (hx1 : -9223372036854775808 ≤ x) (hx2 : x < 9223372036854775808) (hu1 : -9223372036854775808 ≤ u) (hu2 : u < 9223372036854775808) (hv1 : -9223372036854775808 ≤ v) (hv2 : v < 9223372036854775808) : F_Mo_in n E S (jJ x) (jJ u) (jJ v) M = some (decide (u ≤ x ∧ x ≤ v), M) := by
  unfold F_Mo_in
  simp (disch := omega) only [ylt, yle]
  by_cases c1 : x < u
  · rw [if_pos c1, show decide (u ≤ x ∧ x ≤ v) = false from decide_eq_false (by omega)]
  · rw [if_neg c1]
    by_cases c2 : v < x
    · rw [if_pos c2, show decide (u ≤ x ∧ x ≤ v) = false from decide_eq_false (by omega)]
    · rw [if_neg c2, show decide (u ≤ x ∧ x ≤ v) = true from decide_eq_true (by omega)]
/-- reckon: what it answers, and whether it breaks -/
theorem s_reckon (hS : ShOK S B) {op a b : Int} (ho : 20 ≤ op) (ho2 : op < 28) (ha : zR a) (hb : zR b) (h0 : mI M (B + 105) 38 = 0) :
    ∃ M' v, F_Mo_reckon n E S (B + 105) (iI op) (jJ a) (jJ b) M = some (jJ v, M') ∧ zAg (fun b j => b = B + 105 ∧ j = 38) M M' ∧ -4611686018427387904 ≤ v ∧ v ≤ 4611686018427387904 ∧ mI M' (B + 105) 38 = (if cOp (op - 15) a b = none then 1 else 0) ∧ (cOp (op - 15) a b ≠ none → cOp (op - 15) a b = some v) := by
  obtain ⟨a1, a2⟩ := ha
  obtain ⟨b1, b2⟩ := hb
  have hmul := zR_mul ⟨a1, a2⟩ ⟨b1, b2⟩
  have hdiv := zR_tdiv (b := b) ⟨a1, a2⟩
  have hrem := zR_tmod (b := b) ⟨a1, a2⟩
  have A0 : zAg (fun b j => b = B + 105 ∧ j = 38) M M := zAg.rfl'
  have Eb : (jJ b = 0) = (b = 0) := by rw [jL0]; exact yeq (by omega) (by omega) (by omega) (by omega)
  have Eab : (jJ a = jJ b) = (a = b) := yeq (by omega) (by omega) (by omega) (by omega)
  have Lab : (jJ a ≤ jJ b) = (a ≤ b) := yle (by omega) (by omega) (by omega) (by omega)
  have Lba : (jJ b ≤ jJ a) = (b ≤ a) := yle (by omega) (by omega) (by omega) (by omega)
  have hcase : op = 20 ∨ op = 21 ∨ op = 22 ∨ op = 23 ∨ op = 24 ∨ op = 25 ∨ op = 26 ∨ op = 27 := by omega
  unfold F_Mo_reckon
  simp only [Eb, Eab, Lab, Lba, jJ_add, jJ_sub, jJ_mul]
  rcases hcase with rfl | rfl | rfl | rfl | rfl | rfl | rfl | rfl
  · rw [if_pos (by decide)]
    exact ⟨M, a + b, rfl, A0, by omega, by omega, by rw [h0]; rfl, fun _ => rfl⟩
  · rw [if_neg (by decide), if_pos (by decide)]
    exact ⟨M, a - b, rfl, A0, by omega, by omega, by rw [h0]; rfl, fun _ => rfl⟩
  · rw [if_neg (by decide), if_neg (by decide), if_pos (by decide)]
    exact ⟨M, a * b, rfl, A0, by omega, by omega, by rw [h0]; rfl, fun _ => rfl⟩
  · rw [if_neg (by decide), if_neg (by decide), if_neg (by decide), if_pos (by decide)]
    have e : cOp (23 - 15) a b = if b = 0 then none else some (a.tdiv b) := rfl
    rw [e]
    unfold F_Mo_reckon_b72
    by_cases z : b = 0
    · simp only [if_pos z, hS.z1051, hS.i105, Option.bind_some, mI_s]
      rw [if_neg (by decide)]
      exact ⟨_, 0, rfl, A0.setI ⟨rfl, rfl⟩, by omega, by omega, by rw [mI_s]; rfl, fun h => absurd rfl h⟩
    · simp only [if_neg z, hS.z1050, hS.i105, Option.bind_some, mI_s]
      rw [if_true, jJ_div (by omega) (by omega) (by omega) (by omega) z, Option.bind_some]
      exact ⟨_, a.tdiv b, rfl, A0.setI ⟨rfl, rfl⟩, by omega, by omega, by rw [mI_s]; simp, fun h => rfl⟩
  · rw [if_neg (by decide), if_neg (by decide), if_neg (by decide), if_neg (by decide), if_pos (by decide)]
    have e : cOp (24 - 15) a b = if b = 0 then none else some (a.tmod b) := rfl
    rw [e]
    unfold F_Mo_reckon_b104
    by_cases z : b = 0
    · simp only [if_pos z, hS.z1051, hS.i105, Option.bind_some, mI_s]
      rw [if_neg (by decide)]
      exact ⟨_, 0, rfl, A0.setI ⟨rfl, rfl⟩, by omega, by omega, by rw [mI_s]; rfl, fun h => absurd rfl h⟩
    · have := hrem z
      simp only [if_neg z, hS.z1050, hS.i105, Option.bind_some, mI_s]
      rw [if_true, jJ_rem (by omega) (by omega) (by omega) (by omega) z, Option.bind_some]
      exact ⟨_, a.tmod b, rfl, A0.setI ⟨rfl, rfl⟩, by omega, by omega, by rw [mI_s]; simp, fun h => rfl⟩
  · rw [if_neg (by decide), if_neg (by decide), if_neg (by decide), if_neg (by decide), if_neg (by decide), if_pos (by decide)]
    have e : cOp (25 - 15) a b = some (if a < b then 1 else 0) := rfl
    rw [e]
    by_cases z : b ≤ a
    · rw [if_pos z, if_neg (show ¬ a < b by omega)]
      exact ⟨M, 0, rfl, A0, by omega, by omega, by rw [h0]; rfl, fun _ => rfl⟩
    · rw [if_neg z, if_pos (show a < b by omega)]
      exact ⟨M, 1, rfl, A0, by omega, by omega, by rw [h0]; rfl, fun _ => rfl⟩
  · rw [if_neg (by decide), if_neg (by decide), if_neg (by decide), if_neg (by decide), if_neg (by decide), if_neg (by decide), if_pos (by decide)]
    have e : cOp (26 - 15) a b = some (if b < a then 1 else 0) := rfl
    rw [e]
    by_cases z : a ≤ b
    · rw [if_pos z, if_neg (show ¬ b < a by omega)]
      exact ⟨M, 0, rfl, A0, by omega, by omega, by rw [h0]; rfl, fun _ => rfl⟩
    · rw [if_neg z, if_pos (show b < a by omega)]
      exact ⟨M, 1, rfl, A0, by omega, by omega, by rw [h0]; rfl, fun _ => rfl⟩
  · rw [if_neg (by decide), if_neg (by decide), if_neg (by decide), if_neg (by decide), if_neg (by decide), if_neg (by decide), if_neg (by decide)]
    have e : cOp (27 - 15) a b = some (if a = b then 1 else 0) := rfl
    rw [e]
    by_cases z : a = b
    · rw [if_pos z, if_pos z]
      exact ⟨M, 1, rfl, A0, by omega, by omega, by rw [h0]; rfl, fun _ => rfl⟩
    · rw [if_neg z, if_neg z]
      exact ⟨M, 0, rfl, A0, by omega, by omega, by rw [h0]; rfl, fun _ => rfl⟩
theorem b369 (hS : ShOK S B) {l : Nat} (hl : l ≤ 400) : ∃ v, F_Mo_reckonAll_b369 n E S (B + 105) (iI (l : Int)) M = some (setJ M (B + 105) 39 v) ∧ (l = 1 → v = mJ M (B + 125) 0) := by
  unfold F_Mo_reckonAll_b369 F_Mo_reckonAll_b384
  simp only [iL0, xle (x := (l : Int)) (y := 0) (by omega) (by omega) (by omega) (by omega)]
  by_cases c : (l : Int) ≤ 0
  · rw [if_pos c, hS.pj105, Option.bind_some]
    exact ⟨0, rfl, fun h => by omega⟩
  · rw [if_neg c, hS.g105_37, Option.bind_some, hS.r125 (by omega) (by omega), Option.bind_some, hS.pj105, Option.bind_some]
    exact ⟨_, rfl, fun h => rfl⟩
/-- the leaf that the model lays on its stack -/
theorem b95leaf (hS : ShOK S B) {rec : Nat × Int32 × Int32 × Int32 × zH → Option zH} {ord : Bool} {mo ma w : Nat → Int} {last k l : Nat} (h : McR M B ord mo ma w last) (hk : k < last) (hv : lv ord (mo k) (ma k)) (ho : mo k < 20) (hl : l < 400) {x4 : Int32} :
    F_Mo_reckonAll_b95 n E S rec (B + 105) (iI (last : Int)) (iI (l : Int)) x4 (iI (mo k)) (iI (ma k)) M = rec (B + 105, iI (last : Int), iI ((l + 1 : Nat) : Int), x4 + 1, setJ M (B + 125) l (jJ (if mo k = 0 then ma k else w (li ord (mo k) (ma k))))) := by
  obtain ⟨h1, h2, h3, h4, h5⟩ := h
  obtain ⟨v0, v1, v2, v3⟩ := hv
  have hl1 : iI (l : Int) + 1 = iI ((l + 1 : Nat) : Int) := by rw [iL1, iI_add]; rfl
  have hfin : ∀ v : Int, F_Mo_reckonAll_b220 n E S rec (B + 105) (iI (last : Int)) (iI (l : Int)) (x4 + 1) (jJ v) (iI (l : Int)) (B + 125) M = rec (B + 105, iI (last : Int), iI ((l + 1 : Nat) : Int), x4 + 1, setJ M (B + 125) l (jJ v)) := by
    intro v
    unfold F_Mo_reckonAll_b220 F_Mo_reckonAll_b366
    rw [hS.w125 (by omega) (by omega), Option.bind_some, hl1]
    rfl
  unfold F_Mo_reckonAll_b95
  simp only [show (20 : Int32) = iI 20 from rfl, xle (x := 20) (y := mo k) (by omega) (by omega) (by omega) (by omega)]
  rw [if_neg (by omega), hS.g105_37, Option.bind_some]
  simp only [iL0, xeq (x := mo k) (y := 0) (by omega) (by omega) (by omega) (by omega)]
  by_cases c0 : mo k = 0
  · rw [if_pos c0, if_pos c0, xJ (by omega) (by omega)]
    exact hfin _
  rw [if_neg c0, if_neg c0, hS.i105, Option.bind_some]
  cases ord with
  | false =>
    have h1 : mI M (B + 105) 20 = iI 0 := h1
    obtain ⟨lw, a1, a2, a3, a4⟩ := h3 rfl
    have hle : mo k ≤ 9 := by
      rcases v3 with v3 | ⟨_, v3⟩ | ⟨v3, _⟩
      · omega
      · exact v3
      · cases v3
    obtain ⟨w1, w2⟩ := a4 (mo k - 1).toNat (by omega)
    rw [h1, if_pos (show iI 0 = iI 0 from rfl), hS.g105_35, Option.bind_some, hS.r123 (by omega) (by omega), Option.bind_some, show (mo k).toNat = (mo k - 1).toNat + 1 by omega, w1]
    have e : li false (mo k) (ma k) = (mo k - 1).toNat := rfl
    rw [e]
    exact hfin _
  | true =>
    obtain ⟨a1, a2, a3, ⟨nb, b1, b2, b3, b4⟩, a5, a6⟩ := h4 rfl
    have v3 : mo k < 5 ∨ (mo k = 5 ∧ ma k < 4) ∨ (mo k = 6 ∧ ma k < 3) ∨ (mo k = 7 ∧ ma k < 8) := by
      rcases v3 with v3 | ⟨v3, _⟩ | ⟨_, v3⟩
      · omega
      · cases v3
      · exact v3
    have h1 : mI M (B + 105) 20 = iI 1 := h1
    rw [h1, if_neg (show ¬ iI 1 = iI 0 by decide)]
    simp only [iL5, iL6, xle (x := 5) (y := mo k) (by omega) (by omega) (by omega) (by omega), xle (x := mo k) (y := 6) (by omega) (by omega) (by omega) (by omega), xeq (x := mo k) (y := 5) (by omega) (by omega) (by omega) (by omega)]
    have e : li true (mo k) (ma k) = if mo k < 5 then (mo k - 1).toNat else if mo k = 5 then 4 + (ma k).toNat else if mo k = 6 then 8 + (ma k).toNat else 11 + (ma k).toNat := rfl
    rw [e]
    by_cases c5 : 5 ≤ mo k
    · rw [if_pos c5, if_neg (show ¬ mo k < 5 by omega)]
      by_cases d5 : mo k = 5
      · have z := a6 (4 + (ma k).toNat) (by omega)
        have z1 := z.1
        have z2 := z.2
        rw [if_pos d5, if_pos d5, hS.g105_3, Option.bind_some, show (8 : Int32) = iI 8 from rfl, iI_add, hS.r107 (by omega) (by omega), Option.bind_some, show (8 + ma k).toNat = 8 + (ma k).toNat by omega, a3 (ma k).toNat (by omega), xJ (by omega) (by omega)]
        exact hfin _
      rw [if_neg d5, if_neg d5]
      by_cases d6 : mo k = 6
      · rw [if_pos (show mo k ≤ 6 by omega), if_pos d6]
        have z := a6 (8 + (ma k).toNat) (by omega)
        have z1 := z.1
        have z2 := z.2
        have hB : F_Mo_isBucket n E S (B + 105) (iI (ma k)) M = some (decide (0 ≤ ma k ∧ ma k ≤ (nb : Int) - 1), M) := by
          unfold F_Mo_isBucket
          rw [xJ (by omega) (by omega), hS.g105_3, Option.bind_some, iL0, hS.r107 (by omega) (by omega), Option.bind_some, tn0, b2, xJ (by omega) (by omega), jL1, jJ_sub, jL0, s_in (by omega) (by omega) (by omega) (by omega) (by omega) (by omega)]
          rfl
        rw [hB, Option.bind_some]
        by_cases cb : ma k < nb
        · rw [if_pos (by simp; omega), hS.g105_3, Option.bind_some, show (48 : Int32) = iI 48 from rfl, iI_add]
          show ((zldI S M (B + 107) (iI (48 + ma k))).bind _) = _
          rw [hS.r107 (by omega) (by omega), Option.bind_some, show (48 + ma k).toNat = 48 + (ma k).toNat by omega, b3 (ma k).toNat (by omega), xJ (by omega) (by omega)]
          exact hfin _
        · rw [if_neg (by simp; omega), b4 (ma k).toNat (by omega) (by omega)]
          exact hfin (-1)
      · rw [if_neg (show ¬ mo k ≤ 6 by omega), if_neg d6, hS.g105_41, Option.bind_some, hS.r126 (by omega) (by omega), Option.bind_some, a5 (ma k).toNat (by omega)]
        have z := a6 (11 + (ma k).toNat) (by omega)
        have z1 := z.1
        have z2 := z.2
        rw [xJ (by omega) (by omega)]
        exact hfin _
    · rw [if_neg c5, if_pos (show mo k < 5 by omega), hS.g105_36, Option.bind_some, hS.r124 (by omega) (by omega), Option.bind_some, show (mo k).toNat = (mo k - 1).toNat + 1 by omega, a2 (mo k - 1).toNat (by omega)]
      exact hfin _
theorem lv_w {ord : Bool} {mo ma w : Nat → Int} {last k : Nat} (h : McR M B ord mo ma w last) (hv : lv ord (mo k) (ma k)) : zR (if mo k = 0 then ma k else w (li ord (mo k) (ma k))) := by
  obtain ⟨h1, h2, h3, h4, h5⟩ := h
  obtain ⟨v0, v1, v2, v3⟩ := hv
  by_cases c0 : mo k = 0
  · rw [if_pos c0]; exact zR_of (by omega) (by omega)
  rw [if_neg c0]
  cases ord with
  | false =>
    obtain ⟨lw, a1, a2, a3, a4⟩ := h3 rfl
    have hle : mo k ≤ 9 := by
      rcases v3 with v3 | ⟨_, v3⟩ | ⟨v3, _⟩
      · omega
      · exact v3
      · cases v3
    exact (a4 (mo k - 1).toNat (by omega)).2.r
  | true =>
    have a6 := (h4 rfl).2.2.2.2.2
    have v3 : mo k < 5 ∨ (mo k = 5 ∧ ma k < 4) ∨ (mo k = 6 ∧ ma k < 3) ∨ (mo k = 7 ∧ ma k < 8) := by
      rcases v3 with v3 | ⟨v3, _⟩ | ⟨_, v3⟩
      · omega
      · cases v3
      · exact v3
    refine (a6 _ ?_).r
    show (if mo k < 5 then (mo k - 1).toNat else if mo k = 5 then 4 + (ma k).toNat else if mo k = 6 then 8 + (ma k).toNat else 11 + (ma k).toNat) < 19
    split
    · omega
    split
    · omega
    split
    · omega
    · omega
end
