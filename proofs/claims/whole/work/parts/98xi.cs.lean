/-! law and orders: the simulation: the class's state, the model's state and steps -/
def CS (M : zH) (B : Nat) (ord : Bool) (tb : Nat → Int) (l cl s : Nat) (st : Nat → Int) (len pt wm : Nat) : Prop := LC M B tb l s ∧ CX M B st len pt ∧ mI M (B + 69) 2 = bI ord ∧ (mI M (B + 70) 6 = iI (cl : Int) ∧ cl < 12) ∧ mI M (B + 74) cl = iI (wm : Int) ∧ wm < 524288
def clX (B cl : Nat) : Nat → Nat → Prop := fun b j => (b = B + 67 ∧ 2 ≤ j ∧ j ≤ 5) ∨ (b = B + 69 ∧ j = 3) ∨ (b = B + 70 ∧ j = 5) ∨ b = B + 71 ∨ (b = B + 74 ∧ j = cl)
section
variable {n : Nat} {E : zE} {S : zS} {M M' : zH} {B : Nat} {ord : Bool} {tb : Nat → Int} {l cl s : Nat} {st : Nat → Int} {len pt wm : Nat}
theorem CS.adv (hS : ShOK S B) (hn : 1000 ≤ n) (h : CS M B ord tb l cl s st len pt wm) : ∃ M', F_Ta_advance n E S (B + 67) M = some M' ∧ CS M' B ord tb l cl (nx tb l s) st len pt wm ∧ zAg (clX B cl) M M' := by
  obtain ⟨h1, h2, h3, ⟨h4, h5⟩, h6, h7⟩ := h
  obtain ⟨M', e, g, hA⟩ := c_adv (n := n) (E := E) hS hn h1.1 (tE_b h1.2.1).2.1 h1.2.2.2.2.1
  refine ⟨M', e, ⟨g, h2.ag hA (by unfold tpX; omega) (fun j => by unfold tpX; omega), ?_, ⟨?_, h5⟩, ?_, h7⟩, hA.mono (fun b j q => by unfold tpX at q; unfold clX; omega)⟩
  · rw [(hA _ _ (by unfold tpX; omega)).1]; exact h3
  · rw [(hA _ _ (by unfold tpX; omega)).1]; exact h4
  · rw [(hA _ _ (by unfold tpX; omega)).1]; exact h6
theorem CS.cx {st' : Nat → Int} {len' : Nat} (h : CS M B ord tb l cl s st len pt wm) (hA : zAg (cxX B) M M') (g : CX M' B st' len' pt) : CS M' B ord tb l cl s st' len' pt wm ∧ zAg (clX B cl) M M' := by
  obtain ⟨h1, h2, h3, ⟨h4, h5⟩, h6, h7⟩ := h
  refine ⟨⟨h1.ag hA (fun j => by unfold cxX; omega) (fun j => by unfold cxX; omega), g, ?_, ⟨?_, h5⟩, ?_, h7⟩, hA.mono (fun b j q => by unfold cxX at q; unfold clX; omega)⟩
  · rw [(hA _ _ (by unfold cxX; omega)).1]; exact h3
  · rw [(hA _ _ (by unfold cxX; omega)).1]; exact h4
  · rw [(hA _ _ (by unfold cxX; omega)).1]; exact h6
theorem CS.add (hS : ShOK S B) (h : CS M B ord tb l cl s st len pt wm) (hl : len < 400) {o v : Int} (ho : 0 ≤ o ∧ o < 16) (hv : 0 ≤ v ∧ v ≤ 1000) : ∃ M', F_Te_add n E S (B + 70) (iI o) (iI v) M = some (iI (len : Int), M') ∧ CS M' B ord tb l cl s (upF st len (o + 16 * v)) (len + 1) pt wm ∧ zAg (clX B cl) M M' := by
  obtain ⟨M', e, g, hA⟩ := s_teAdd (n := n) (E := E) hS h.2.1 hl ho hv
  obtain ⟨g1, g2⟩ := h.cx hA g
  exact ⟨M', e, g1, g2⟩
theorem CS.leap (hS : ShOK S B) (h : CS M B ord tb l cl s st len pt wm) {p : Nat} (hp : p < len) : ∃ M', F_Te_leapHere n E S (B + 70) (iI (p : Int)) M = some M' ∧ CS M' B ord tb l cl s (upF st p (st p % 16 + 16 * (len : Int))) len pt wm ∧ zAg (clX B cl) M M' := by
  obtain ⟨M', e, g, hA⟩ := s_leap (n := n) (E := E) hS h.2.1 hp
  obtain ⟨g1, g2⟩ := h.cx hA g
  exact ⟨M', e, g1, g2⟩
theorem CS.prt (h : CS M B ord tb l cl s st len pt wm) (hp : pt < 50) : CS (setI M (B + 69) 3 (iI ((pt : Int) + 1))) B ord tb l cl s st len (pt + 1) wm ∧ zAg (clX B cl) M (setI M (B + 69) 3 (iI ((pt : Int) + 1))) := by
  obtain ⟨h1, ⟨⟨a1, a2, a3⟩, b1, b2⟩, h3, ⟨h4, h5⟩, h6, h7⟩ := h
  refine ⟨⟨h1.ag (X := fun b j => b = B + 69) (zAg.rfl'.setI rfl) (fun j => by omega) (fun j => by omega), ⟨⟨by rw [mI_a (by omega)]; exact a1, a2, fun k hk => by rw [mI_a (by omega)]; exact a3 k hk⟩, mI_s, by omega⟩, ?_, ⟨?_, h5⟩, ?_, h7⟩, zAg.rfl'.setI (by unfold clX; omega)⟩
  · rw [mI_i (by decide)]; exact h3
  · rw [mI_a (by omega)]; exact h4
  · rw [mI_a (by omega)]; exact h6
theorem CS.addw (hS : ShOK S B) (h : CS M B ord tb l cl s st len pt wm) (hl : len < 400) {w : Nat} (hw : w < 19) : ∃ M', F_Te_addWord n E S (B + 70) (iI (w : Int)) M = some M' ∧ CS M' B ord tb l cl s (upF st len (1 + 16 * (w : Int))) (len + 1) pt (wm ||| 2 ^ w) ∧ zAg (clX B cl) M M' := by
  obtain ⟨M1, e1, g1, hA1⟩ := h.add (n := n) (E := E) hS hl (o := 1) (v := (w : Int)) (by omega) (by omega)
  have hw2 : wm ||| 2 ^ w < 524288 := Nat.or_lt_two_pow (n := 19) h.2.2.2.2.2 (Nat.pow_lt_pow_right (by decide) hw)
  have hA2 : zAg (clX B cl) M1 (setI M1 (B + 74) cl (iI ((wm ||| 2 ^ w : Nat) : Int))) := zAg.rfl'.setI (by unfold clX; omega)
  obtain ⟨h1, h2, h3, ⟨h4, h5⟩, h6, h7⟩ := g1
  refine ⟨setI M1 (B + 74) cl (iI ((wm ||| 2 ^ w : Nat) : Int)), ?_, ⟨h1.ag (X := fun b j => b = B + 74) (zAg.rfl'.setI rfl) (fun j => by omega) (fun j => by omega), h2.ag (X := fun b j => b = B + 74) (zAg.rfl'.setI rfl) (by omega) (fun j => by omega), ?_, ⟨?_, h5⟩, mI_s, hw2⟩, hA1.trans hA2⟩
  · unfold F_Te_addWord
    rw [hS.ck70, obs, iL1, e1, obs, hS.i70 (M := M1), obs, h4, show (12 : Int32) = iI 12 by decide, if_neg (cleF (by omega) (by omega) (by omega)), hS.g70_3, obs, obs, hS.r74 (M := M1) (by omega) (by omega), obs, Int.toNat_natCast, h6, iL31, xshl (by omega) (by omega), show (1 : Int) * 2 ^ ((w : Nat) : Int).toNat = ((2 ^ w : Nat) : Int) by rw [Int.toNat_natCast, Int.one_mul]; exact (Int.natCast_pow 2 w).symm, iI_or, hS.w74 (M := M1) (by omega) (by omega), obs, Int.toNat_natCast]
  · rw [mI_a (by omega)]; exact h3
  · rw [mI_a (by omega)]; exact h4
end
/-- the model within an expression, with what it reads words by -/
def MH (M : zH) (B : Nat) (ord : Bool) (tb : Nat → Int) (l s : Nat) (Pl : List (Int × Int)) (mo ma : Nat → Int) (nc lf op : Nat) : Prop := MG M B tb l s Pl mo ma nc lf op ∧ mI M (B + 105) 20 = bI ord ∧ (∀ i, i < 9 → mJ M (B + 120) i = jJ (cW i)) ∧ ∀ i, i < 7 → mJ M (B + 121) i = jJ (cO i)
/-- k steps of readExpression -/
def Rc (n : Nat) (E : zE) (S : zS) (B : Nat) (tt : Int) (k : Nat) (t : Int) (M : zH) (t' : Int) (M' : zH) : Prop := ∀ fuel, zfix (fun r20 s => F_Mo_readExpression_L20 n E S r20 s.1 s.2.1 s.2.2.1 s.2.2.2) (fuel + k) (B + 105, iI tt, iI t, M) = zfix (fun r20 s => F_Mo_readExpression_L20 n E S r20 s.1 s.2.1 s.2.2.1 s.2.2.2) fuel (B + 105, iI tt, iI t', M')
section
variable {n : Nat} {E : zE} {S : zS} {M M' M'' : zH} {B : Nat} {ord : Bool} {tb : Nat → Int} {l s s' : Nat} {Pl Pl' : List (Int × Int)} {mo ma mo' ma' : Nat → Int} {nc lf op nc' lf' op' : Nat} {tt t t' t'' : Int} {k k' : Nat}
theorem MH.to (h : MH M B ord tb l s Pl mo ma nc lf op) (g : MG M' B tb l s' Pl' mo' ma' nc' lf' op') (hA : zAg (psX B) M M') : MH M' B ord tb l s' Pl' mo' ma' nc' lf' op' :=
  ⟨g, by rw [(hA _ _ (by unfold psX; omega)).1]; exact h.2.1, fun i hi => by rw [(hA _ _ (by unfold psX; omega)).2.1]; exact h.2.2.1 i hi, fun i hi => by rw [(hA _ _ (by unfold psX; omega)).2.1]; exact h.2.2.2 i hi⟩
theorem Rc.rfl' : Rc n E S B tt 0 t M t M := fun _ => rfl
theorem Rc.trans (h1 : Rc n E S B tt k t M t' M') (h2 : Rc n E S B tt k' t' M' t'' M'') : Rc n E S B tt (k + k') t M t'' M'' := fun fuel => by
  rw [show fuel + (k + k') = fuel + k' + k by omega, h1 (fuel + k'), h2 fuel]
theorem rc_1 (hS : ShOK S B) (h19 : mI M (B + 105) 19 = iI 0) (e : F_Mo_readPart n E S (B + 105) M = some (iI t', M')) : Rc n E S B tt 1 1 M t' M' := fun fuel => by
  show F_Mo_readExpression_L20 n E S (zfix (fun r20 s => F_Mo_readExpression_L20 n E S r20 s.1 s.2.1 s.2.2.1 s.2.2.2) fuel) (B + 105) (iI tt) (iI 1) M = _
  generalize zfix (fun r20 s => F_Mo_readExpression_L20 n E S r20 s.1 s.2.1 s.2.2.1 s.2.2.2) fuel = rec
  unfold F_Mo_readExpression_L20 F_Mo_readExpression_b72
  rw [hS.i105, obs, h19, iL0, if_pos rfl, if_neg (show ¬ iI 1 = 4 by decide), if_neg (show ¬ iI 1 = iI 0 by decide), if_pos (show iI 1 = 1 by decide), e, obs]
theorem rc_0 (hS : ShOK S B) (h19 : mI M (B + 105) 19 = iI 0) (e : F_Mo_readPlain n E S (B + 105) M = some (iI t', M')) : Rc n E S B tt 1 0 M t' M' := fun fuel => by
  show F_Mo_readExpression_L20 n E S (zfix (fun r20 s => F_Mo_readExpression_L20 n E S r20 s.1 s.2.1 s.2.2.1 s.2.2.2) fuel) (B + 105) (iI tt) (iI 0) M = _
  generalize zfix (fun r20 s => F_Mo_readExpression_L20 n E S r20 s.1 s.2.1 s.2.2.1 s.2.2.2) fuel = rec
  unfold F_Mo_readExpression_L20 F_Mo_readExpression_b72
  rw [hS.i105, obs, h19, iL0, if_pos rfl, if_neg (show ¬ iI 0 = 4 by decide), if_pos rfl, e, obs]
theorem rc_3 (hS : ShOK S B) (h19 : mI M (B + 105) 19 = iI 0) (e : F_Mo_behindSum n E S (B + 105) (iI tt) M = some (iI t', M')) : Rc n E S B tt 1 3 M t' M' := fun fuel => by
  show F_Mo_readExpression_L20 n E S (zfix (fun r20 s => F_Mo_readExpression_L20 n E S r20 s.1 s.2.1 s.2.2.1 s.2.2.2) fuel) (B + 105) (iI tt) (iI 3) M = _
  generalize zfix (fun r20 s => F_Mo_readExpression_L20 n E S r20 s.1 s.2.1 s.2.2.1 s.2.2.2) fuel = rec
  unfold F_Mo_readExpression_L20 F_Mo_readExpression_b72
  rw [hS.i105, obs, h19, iL0, if_pos rfl, if_neg (show ¬ iI 3 = 4 by decide), if_neg (show ¬ iI 3 = iI 0 by decide), if_neg (show ¬ iI 3 = 1 by decide), if_pos (show iI 3 = 3 by decide), e, obs]
theorem rc_2 (hS : ShOK S B) (h19 : mI M (B + 105) 19 = iI 0) (e : F_Mo_behindTest n E S (B + 105) M = some (iI t', M')) : Rc n E S B tt 1 2 M t' M' := fun fuel => by
  show F_Mo_readExpression_L20 n E S (zfix (fun r20 s => F_Mo_readExpression_L20 n E S r20 s.1 s.2.1 s.2.2.1 s.2.2.2) fuel) (B + 105) (iI tt) (iI 2) M = _
  generalize zfix (fun r20 s => F_Mo_readExpression_L20 n E S r20 s.1 s.2.1 s.2.2.1 s.2.2.2) fuel = rec
  unfold F_Mo_readExpression_L20 F_Mo_readExpression_b72
  rw [hS.i105, obs, h19, iL0, if_pos rfl, if_neg (show ¬ iI 2 = 4 by decide), if_neg (show ¬ iI 2 = iI 0 by decide), if_neg (show ¬ iI 2 = 1 by decide), if_neg (show ¬ iI 2 = 3 by decide), e, obs]
end
