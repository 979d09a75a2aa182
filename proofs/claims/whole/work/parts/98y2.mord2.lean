/-! orders: the model's clauses (2) -/
section
variable {n : Nat} {E : zE} {S S0 : zS} {M M' MM : zH} {B : Nat} {tb : Nat → Int} {l cl s s' : Nat} {mo ma : Nat → Int} {nc pt pt' : Nat} {f : Fn} {L te : Int}
/-- readSum where it is bad already -/
theorem o_sumB (hS : ShOK S B) (hcl : cl < 12) {i : Nat} (hi : i + 1 < 8) (h : MBd MM B s') : ∃ MM', F_Mo_readSum n E S (B + 105) (iI ((8 * cl : Nat) : Int) + iI (i : Int)) MM = some MM' ∧ MBd MM' B s' ∧ zAg (ocB B cl) MM MM' := by
  refine ⟨setI (setI MM (B + 134) (8 * cl + i) (mI MM (B + 105) 23)) (B + 134) (8 * cl + (i + 1)) (mI MM (B + 105) 23), ?_, h.s134.s134, (ob_set (by omega)).trans (ob_set (by omega))⟩
  unfold F_Mo_readSum F_Mo_readSum_b22
  rw [hS.g105_49, obs, hS.i105, obs, w134 hS hcl (by omega), obs, hS.i105, obs, mI_a (by omega), h.1, iL0, if_neg (show ¬ iI 1 = iI 0 by decide), obs, hS.i105, obs, mI_a (by omega), iI_add, iL1, iI_add, show ((8 * cl : Nat) : Int) + (i : Int) + 1 = ((8 * cl + (i + 1) : Nat) : Int) by omega, hS.w134 (by omega) (by omega), obs, Int.toNat_natCast]
theorem o_sumX (hS : ShOK S B) (hcl : cl < 12) {i : Nat} (hi : i + 1 < 8) (h : MK MM B true tb l s mo ma nc pt) : F_Mo_readSum n E S (B + 105) (iI ((8 * cl : Nat) : Int) + iI (i : Int)) MM = (F_Mo_readExpression n E S (B + 105) (iI 0) (setI MM (B + 134) (8 * cl + i) (iI (nc : Int)))).bind fun q => some (setI q (B + 134) (8 * cl + (i + 1)) (mI q (B + 105) 23)) := by
  unfold F_Mo_readSum F_Mo_readSum_b22
  rw [hS.g105_49, obs, hS.i105, obs, h.2.1.1, w134 hS hcl (by omega), obs, hS.i105, obs, mI_a (by omega), h.2.2.2.1, iL0, if_pos rfl]
  cases F_Mo_readExpression n E S (B + 105) (iI 0) (setI MM (B + 134) (8 * cl + i) (iI (nc : Int))) with
  | none => rfl
  | some q => rw [obs, obs, obs, hS.i105, obs, iI_add, iL1, iI_add, show ((8 * cl : Nat) : Int) + (i : Int) + 1 = ((8 * cl + (i + 1) : Nat) : Int) by omega, hS.w134 (by omega) (by omega), obs, Int.toNat_natCast]
/-- readSum of a sum that is one -/
theorem o_sum (hS : ShOK S B) (hn : 1000 ≤ n) (hl : l ≤ 400) (hcl : cl < 12) {i : Nat} (hi : i + 1 < 8) (om : OkM n E S0 B true tb l 5 0 1 3 0 s pt s' pt' f) (ec : opS tb l s' = -1) (hs' : s' ≤ l) (h : MK MM B true tb l s mo ma nc pt) (hnc : nc ≤ s) : ∃ MM' mo' ma' nc', F_Mo_readSum n E S (B + 105) (iI ((8 * cl : Nat) : Int) + iI (i : Int)) MM = some MM' ∧ MK MM' B true tb l s' mo' ma' nc' pt' ∧ NC MM' B 134 cl i (nc : Nat) ∧ NC MM' B 134 cl (i + 1) (nc' : Nat) ∧ zAg (ocX B cl i (i + 2)) MM MM' ∧ nc' + s ≤ nc + s' ∧ cdOK true mo ma nc (mo', ma', nc') (pt' - pt) f := by
  obtain ⟨M2, mo2, ma2, nc2, e2, m2, z2, n2, cd⟩ := xs_ok (n := n) (E := E) hS hn hl om ec hs' (h.s134 (j := 8 * cl + i) (v := iI (nc : Int))) hnc
  refine ⟨_, mo2, ma2, nc2, by rw [o_sumX hS hcl hi h, e2, obs], m2.s134, ?_, ?_, ((oc_up (oc_set (cl := cl) (i := i)) (by omega) (by omega)).trans (oc_ps z2)).trans (oc_up (oc_set (cl := cl) (i := i + 1)) (by omega) (by omega)), n2, cd⟩
  · show mI _ (B + 134) (8 * cl + i) = _
    rw [mI_i (by omega), (z2 _ _ (by unfold psX; omega)).1, mI_s]
  · show mI _ (B + 134) (8 * cl + (i + 1)) = _
    rw [mI_s, m2.2.1.1]
theorem o_sum0 (hS : ShOK S B) (hn : 1000 ≤ n) (hl : l ≤ 400) (hcl : cl < 12) {i : Nat} (hi : i + 1 < 8) (b : BadP n E S0 B true tb l L 0 1 te 0 s pt s') (h : MK MM B true tb l s mo ma nc pt) (hnc : nc ≤ s) : ∃ MM', F_Mo_readSum n E S (B + 105) (iI ((8 * cl : Nat) : Int) + iI (i : Int)) MM = some MM' ∧ MBd MM' B s' ∧ zAg (ocB B cl) MM MM' := by
  obtain ⟨M2, e2, m2, z2⟩ := x_bad (n := n) (E := E) hS hn hl (Or.inl ⟨rfl, rfl⟩) b (h.s134 (j := 8 * cl + i) (v := iI (nc : Int))) hnc
  exact ⟨_, by rw [o_sumX hS hcl hi h, e2, obs], m2.s134, ((ob_set (by omega)).trans (ob_ps z2)).trans (ob_set (by omega))⟩
/-- b209, b161 where it is bad -/
theorem o_209B (hS : ShOK S B) (hcl : cl < 12) (h : MBd MM B s') : ∃ MM', F_Mo_readOrder_b209 n E S (B + 105) (iI ((8 * cl : Nat) : Int)) MM = some MM' ∧ MBd MM' B s' ∧ zAg (ocB B cl) MM MM' := by
  refine ⟨setI (setI MM (B + 134) (8 * cl + 5) (mI MM (B + 105) 23)) (B + 134) (8 * cl + 6) (mI MM (B + 105) 23), ?_, h.s134.s134, (ob_set (by omega)).trans (ob_set (by omega))⟩
  unfold F_Mo_readOrder_b209 F_Mo_readOrder_b247
  rw [hS.g105_49, obs, hS.i105, obs, show (5 : Int32) = iI ((5 : Nat) : Int) by decide, w134 hS hcl (by omega), obs, hS.i105, obs, mI_a (by omega), h.1, iL0, if_neg (show ¬ iI 1 = iI 0 by decide), obs, hS.i105, obs, mI_a (by omega), show (6 : Int32) = iI ((6 : Nat) : Int) by decide, w134 hS hcl (by omega), obs]
theorem o_161B (hS : ShOK S B) (hcl : cl < 12) (h : MBd MM B s') : ∃ MM', F_Mo_readOrder_b161 n E S (B + 105) (iI ((8 * cl : Nat) : Int)) MM = some MM' ∧ MBd MM' B s' ∧ zAg (ocB B cl) MM MM' := by
  obtain ⟨M1, e1, b1, z1⟩ := o_209B (n := n) (E := E) hS hcl (h.s134 (j := 8 * cl + 7) (v := iI 1))
  refine ⟨M1, ?_, b1, (ob_set (by omega)).trans z1⟩
  unfold F_Mo_readOrder_b161
  rw [hS.g105_49, obs, show (7 : Int32) = iI ((7 : Nat) : Int) by decide, iL1, w134 hS hcl (by omega), obs, hS.i105, obs, mI_a (by omega), h.1, iL0, if_neg (show ¬ iI 1 = iI 0 by decide)]
  exact e1
theorem o_154B (hS : ShOK S B) (hcl : cl < 12) (h : MBd MM B s') : ∃ MM', F_Mo_readOrder_b154 n E S (B + 105) (iI ((8 * cl : Nat) : Int)) MM = some MM' ∧ MBd MM' B s' ∧ zAg (ocB B cl) MM MM' := by
  obtain ⟨M1, e1, b1, z1⟩ := o_sumB (n := n) (E := E) hS hcl (i := 3) (by omega) h
  obtain ⟨M2, e2, b2, z2⟩ := o_161B (n := n) (E := E) hS hcl b1
  refine ⟨M2, ?_, b2, z1.trans z2⟩
  unfold F_Mo_readOrder_b154
  rw [hS.ck105, obs, show (3 : Int32) = iI ((3 : Nat) : Int) by decide, e1, obs]
  exact e2
/-- the word between two sums -/
theorem o_148 (hS : ShOK S B) (hn : 1000 ≤ n) {C : Int} (hC : 0 ≤ C ∧ C ≤ 1000) (h : MK MM B true tb l s mo ma nc pt) (hw : wis tb l s C = true) : ∃ MM', F_Mo_readOrder_b148 n E S (B + 105) (iI ((8 * cl : Nat) : Int)) (jJ C) (B + 105) (B + 105) MM = F_Mo_readOrder_b154 n E S (B + 105) (iI ((8 * cl : Nat) : Int)) MM' ∧ MK MM' B true tb l (nx tb l s) mo ma nc pt ∧ zAg (psX B) MM MM' := by
  obtain ⟨M1, e1, g1, z1⟩ := h.must1 (n := n) (E := E) hS hn
  refine ⟨M1, ?_, g1, z1⟩
  unfold wis at hw
  unfold F_Mo_readOrder_b148
  rw [hS.ck105, obs, m_isWord hS h.1 (by omega) (by omega), obs, obs, hw, show bI true = iI 1 from rfl, e1, obs]
theorem o_148B (hS : ShOK S B) (hcl : cl < 12) {C : Int} (hC : 0 ≤ C ∧ C ≤ 1000) (h : MK MM B true tb l s mo ma nc pt) (hw : wis tb l s C = false) : ∃ MM', F_Mo_readOrder_b148 n E S (B + 105) (iI ((8 * cl : Nat) : Int)) (jJ C) (B + 105) (B + 105) MM = some MM' ∧ MBd MM' B s ∧ zAg (ocB B cl) MM MM' := by
  obtain ⟨M1, e1, g1, z1⟩ := h.must0 (n := n) (E := E) hS
  obtain ⟨M2, e2, b2, z2⟩ := o_154B (n := n) (E := E) hS hcl g1
  refine ⟨M2, ?_, b2, (ob_ps z1).trans z2⟩
  unfold wis at hw
  unfold F_Mo_readOrder_b148
  rw [hS.ck105, obs, m_isWord hS h.1 (by omega) (by omega), obs, obs, hw, show bI false = iI 0 from rfl, e1, obs]
  exact e2
/-- numbers between expressions -/
theorem MK.numb1 (hS : ShOK S B) (hn : 1000 ≤ n) (h : MK M B true tb l s mo ma nc pt) (k2 : kdT tb l s = 2) (hw : 1 ≤ wT tb l s ∧ wT tb l s ≤ 20) : ∃ M', F_Mo_number n E S (B + 105) (jJ 1) (jJ 20) M = some (iI (wT tb l s), M') ∧ MK M' B true tb l (nx tb l s) mo ma nc pt ∧ zAg (psX B) M M' := by
  obtain ⟨M1, e1, g1, z1⟩ := h.must1 (n := n) (E := E) hS hn
  refine ⟨M1, ?_, g1, z1⟩
  unfold F_Mo_number
  rw [hS.ij105 (M := M), obs, hS.i105 (M := M), obs, h.1.2.2.2.2.1, h.1.2.2.2.2.2, show (2 : Int32) = iI 2 by decide, if_pos (ceqT (by omega)), obs, s_in (by omega) (by omega) (by omega) (by omega) (by omega) (by omega), obs, if_pos (decide_eq_true hw), yI]
  unfold F_Mo_number_b33
  rw [hS.ck105, obs, iL1, e1, obs]
theorem MK.numb0 (hS : ShOK S B) (h : MK M B true tb l s mo ma nc pt) (hw : ¬ (kdT tb l s = 2 ∧ 1 ≤ wT tb l s ∧ wT tb l s ≤ 20)) : ∃ v M', F_Mo_number n E S (B + 105) (jJ 1) (jJ 20) M = some (v, M') ∧ MBd M' B s ∧ zAg (psB B) M M' := by
  have hwb := LM.bT h.1
  have hk3 := kdT_3 (tb := tb) (l := l) (s := s)
  obtain ⟨M1, e1, g1, z1⟩ := h.must0 (n := n) (E := E) hS
  refine ⟨(jJ (wT tb l s)).toInt32, M1, ?_, g1, z1⟩
  have e32 : ∀ x5 : Int32, F_Mo_number_b32 n E S x5 (B + 105) M = some (x5, M1) := fun x5 => by
    unfold F_Mo_number_b32 F_Mo_number_b33
    rw [hS.ck105, obs, iL0, e1, obs]
  unfold F_Mo_number
  rw [hS.ij105 (M := M), obs, hS.i105 (M := M), obs, h.1.2.2.2.2.1, h.1.2.2.2.2.2, show (2 : Int32) = iI 2 by decide]
  by_cases k2 : kdT tb l s = 2
  · rw [if_pos (ceqT (by omega)), obs, s_in (by omega) (by omega) (by omega) (by omega) (by omega) (by omega), obs, if_neg (fun z => hw ⟨k2, of_decide_eq_true z⟩)]
    exact e32 _
  · rw [if_neg (ceqF (show ¬ (kdT tb l s : Int) = 2 by omega) (by omega) (by omega) (by omega) (by omega))]
    exact e32 _
/-- times: none, some, bad -/
theorem o_161n (hS : ShOK S B) (hcl : cl < 12) (h : MK MM B true tb l s mo ma nc pt) (hw : wis tb l s 21279923 = false) : F_Mo_readOrder_b161 n E S (B + 105) (iI ((8 * cl : Nat) : Int)) MM = F_Mo_readOrder_b209 n E S (B + 105) (iI ((8 * cl : Nat) : Int)) (setI MM (B + 134) (8 * cl + 7) (iI 1)) := by
  have h' := h.s134 (j := 8 * cl + 7) (v := iI 1)
  unfold wis at hw
  unfold F_Mo_readOrder_b161
  rw [hS.g105_49, obs, show (7 : Int32) = iI ((7 : Nat) : Int) by decide, iL1, w134 hS hcl (by omega), obs, hS.i105, obs, h'.2.2.2.1, iL0, if_pos rfl, show (21279923 : Int64) = jJ 21279923 by decide, m_isWord hS h'.1 (by omega) (by omega), obs, if_neg (nbT hw)]
theorem o_161y (hS : ShOK S B) (hn : 1000 ≤ n) (hcl : cl < 12) (h : MK MM B true tb l s mo ma nc pt) (hw : wis tb l s 21279923 = true) : ∃ MM1, MK MM1 B true tb l (nx tb l s) mo ma nc pt ∧ zAg (ocX B cl 7 8) MM MM1 ∧ F_Mo_readOrder_b161 n E S (B + 105) (iI ((8 * cl : Nat) : Int)) MM = (F_Mo_number n E S (B + 105) (jJ 1) (jJ 20) MM1).bind fun q_20 => F_Mo_readOrder_b209 n E S (B + 105) (iI ((8 * cl : Nat) : Int)) (setI q_20.2 (B + 134) (8 * cl + 7) q_20.1) := by
  have h' := h.s134 (j := 8 * cl + 7) (v := iI 1)
  obtain ⟨M1, e1, g1, z1⟩ := h'.next (n := n) (E := E) hS hn
  refine ⟨M1, g1, (oc_set (cl := cl) (i := 7)).trans (oc_ps z1), ?_⟩
  unfold wis at hw
  unfold F_Mo_readOrder_b161
  rw [hS.g105_49, obs, show (7 : Int32) = iI ((7 : Nat) : Int) by decide, iL1, w134 hS hcl (by omega), obs, hS.i105, obs, h'.2.2.2.1, iL0, if_pos rfl, show (21279923 : Int64) = jJ 21279923 by decide, m_isWord hS h'.1 (by omega) (by omega), obs, if_pos hw, e1, obs, show (1 : Int64) = jJ 1 by decide, show (20 : Int64) = jJ 20 by decide]
  cases F_Mo_number n E S (B + 105) (jJ 1) (jJ 20) M1 with
  | none => rfl
  | some q => rw [obs, obs, w134 hS hcl (by omega), obs]
/-- behind sums and times -/
theorem m_209 (hS : ShOK S B) (hcl : cl < 12) (h : MK MM B true tb l s mo ma nc pt) : ∃ MM1, MK MM1 B true tb l s mo ma nc pt ∧ NC MM1 B 134 cl 5 nc ∧ zAg (fun b j => b = B + 134 ∧ j = 8 * cl + 5) MM MM1 ∧ F_Mo_readOrder_b209 n E S (B + 105) (iI ((8 * cl : Nat) : Int)) MM = if wis tb l s 294 = true then (F_Mo_next n E S (B + 105) MM1).bind fun q_13 => (F_Mo_readExpression n E S (B + 105) (iI 1) q_13).bind fun q_14 => F_Mo_readOrder_b247 n E S (B + 105) (iI ((8 * cl : Nat) : Int)) q_14 else F_Mo_readOrder_b247 n E S (B + 105) (iI ((8 * cl : Nat) : Int)) MM1 := by
  have h' := h.s134 (j := 8 * cl + 5) (v := iI (nc : Int))
  refine ⟨_, h', mI_s, zAg.rfl'.setI ⟨rfl, rfl⟩, ?_⟩
  unfold F_Mo_readOrder_b209
  rw [hS.g105_49, obs, hS.i105, obs, h.2.1.1, show (5 : Int32) = iI ((5 : Nat) : Int) by decide, w134 hS hcl (by omega), obs, hS.i105, obs, h'.2.2.2.1, iL0, if_pos rfl, show (294 : Int64) = jJ 294 by decide, m_isWord hS h'.1 (by omega) (by omega), obs, iL1]
  rfl
theorem m_247 (hS : ShOK S B) (hcl : cl < 12) : F_Mo_readOrder_b247 n E S (B + 105) (iI ((8 * cl : Nat) : Int)) MM = some (setI MM (B + 134) (8 * cl + 6) (mI MM (B + 105) 23)) := by
  unfold F_Mo_readOrder_b247
  rw [hS.g105_49, obs, hS.i105, obs, show (6 : Int32) = iI ((6 : Nat) : Int) by decide, w134 hS hcl (by omega), obs]
end
