/-! law and orders: the class's code -/
theorem or4 : ∀ (o : Fin 16) (v : Fin 1001), iI (o.val : Int) ||| iI (v.val * 16 : Int) = iI (o.val + 16 * v.val : Int) := by decide +kernel
/-- the class within a text: steps, parts -/
def CX (M : zH) (B : Nat) (st : Nat → Int) (len pt : Nat) : Prop := (mI M (B + 70) 5 = iI (len : Int) ∧ len ≤ 400 ∧ ∀ k, k < len → mI M (B + 71) k = iI (st k) ∧ 0 ≤ st k ∧ st k < 100000) ∧ mI M (B + 69) 3 = iI (pt : Int) ∧ pt ≤ 50
def cxX (B : Nat) : Nat → Nat → Prop := fun b j => (b = B + 70 ∧ j = 5) ∨ b = B + 71
section
variable {n : Nat} {E : zE} {S : zS} {M M' : zH} {B : Nat} {st : Nat → Int} {len pt : Nat}
theorem CX.ag {X : Nat → Nat → Prop} (h : CX M B st len pt) (hA : zAg X M M') (h1 : ¬ X (B + 70) 5 ∧ ¬ X (B + 69) 3) (h2 : ∀ j, ¬ X (B + 71) j) : CX M' B st len pt := by
  obtain ⟨⟨a1, a2, a3⟩, b1, b2⟩ := h
  refine ⟨⟨by rw [(hA _ _ h1.1).1]; exact a1, a2, fun k hk => by rw [(hA _ _ (h2 k)).1]; exact a3 k hk⟩, by rw [(hA _ _ h1.2).1]; exact b1, b2⟩
theorem s_teAdd (hS : ShOK S B) (h : CX M B st len pt) (hl : len < 400) {o v : Int} (ho : 0 ≤ o ∧ o < 16) (hv : 0 ≤ v ∧ v ≤ 1000) : ∃ M', F_Te_add n E S (B + 70) (iI o) (iI v) M = some (iI (len : Int), M') ∧ CX M' B (upF st len (o + 16 * v)) (len + 1) pt ∧ zAg (cxX B) M M' := by
  obtain ⟨⟨a1, a2, a3⟩, b1, b2⟩ := h
  have e := or4 ⟨o.toNat, by omega⟩ ⟨v.toNat, by omega⟩
  dsimp only at e
  rw [show ((o.toNat : Nat) : Int) = o by omega, show ((v.toNat : Nat) : Int) = v by omega] at e
  have hA : zAg (cxX B) M (setI (setI M (B + 71) len (iI (o + 16 * v))) (B + 70) 5 (iI ((len : Int) + 1))) := (zAg.rfl'.setI (by unfold cxX; omega)).setI (by unfold cxX; omega)
  unfold F_Te_add F_Te_add_b36
  rw [hS.i70, obs, hS.g70_0, obs, hS.l71, obs, a1, if_neg (cleF (by omega) (by omega) (by omega)), obs, show (4 : Int32) = iI 4 by decide, iL31, xshl (by omega) (by omega), show v * 2 ^ (4 : Int).toNat = v * 16 from rfl, e, hS.w71 (by omega) (by omega), obs, Int.toNat_natCast, hS.i70, obs, mI_a (by omega), a1, iL1, iI_add, hS.p70, obs, hS.i70, obs, mI_s, iI_sub, show (len : Int) + 1 - 1 = len by omega]
  refine ⟨_, rfl, ⟨⟨mI_s, by omega, fun k hk => ?_⟩, ?_, b2⟩, hA⟩
  · rw [mI_a (by omega), mI_ite]
    unfold upF
    by_cases q : k = len
    · rw [if_pos ⟨rfl, q⟩, if_pos q]; exact ⟨rfl, by omega, by omega⟩
    · rw [if_neg (fun z => q z.2), if_neg q]; exact a3 k (by omega)
  · rw [mI_a (by omega), mI_a (by omega)]; exact b1
theorem s_leap (hS : ShOK S B) (h : CX M B st len pt) {p : Nat} (hp : p < len) : ∃ M', F_Te_leapHere n E S (B + 70) (iI (p : Int)) M = some M' ∧ CX M' B (upF st p (st p % 16 + 16 * (len : Int))) len pt ∧ zAg (cxX B) M M' := by
  obtain ⟨⟨a1, a2, a3⟩, b1, b2⟩ := h
  obtain ⟨g1, g2, g3⟩ := a3 p hp
  have e := or4 ⟨(st p % 16).toNat, by omega⟩ ⟨len, by omega⟩
  dsimp only at e
  rw [show (((st p % 16).toNat : Nat) : Int) = st p % 16 by omega] at e
  have hA : zAg (cxX B) M (setI M (B + 71) p (iI (st p % 16 + 16 * (len : Int)))) := zAg.rfl'.setI (by unfold cxX; omega)
  unfold F_Te_leapHere
  rw [hS.i70, obs, a1, iL1, iI_sub, iL0, s_withinI (zR_of (by omega) (by omega)) (zR_of (by omega) (by omega)) (zR_of (by omega) (by omega)), obs, if_pos (decide_eq_true (show 0 ≤ (p : Int) ∧ (p : Int) ≤ (len : Int) - 1 by omega)), hS.g70_0, obs, hS.r71 (M := M) (by omega) (by omega), obs, Int.toNat_natCast, g1, hS.i70 (M := M), obs, a1, show (15 : Int32) = iI 15 by decide, xand15, show (4 : Int32) = iI 4 by decide, iL31, xshl (by omega) (by omega), show (len : Int) * 2 ^ (4 : Int).toNat = (len : Int) * 16 from rfl, e, hS.w71 (M := M) (by omega) (by omega), obs, Int.toNat_natCast]
  refine ⟨_, rfl, ⟨⟨by rw [mI_a (by omega)]; exact a1, a2, fun k hk => ?_⟩, by rw [mI_a (by omega)]; exact b1, b2⟩, hA⟩
  rw [mI_ite]
  unfold upF
  by_cases q : k = p
  · rw [if_pos ⟨rfl, q⟩, if_pos q]; exact ⟨rfl, by omega, by omega⟩
  · rw [if_neg (fun z => q z.2), if_neg q]; exact a3 k hk
end
