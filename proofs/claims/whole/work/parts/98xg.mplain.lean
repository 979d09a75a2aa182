/-! law and orders: the model's readPlain and behindTest -/
section
variable {n : Nat} {E : zE} {S : zS} {M M' : zH} {B : Nat} {Pl : List (Int × Int)} {mo ma : Nat → Int} {nc lf op : Nat} {tb : Nat → Int} {l s : Nat}
theorem m_emt (hS : ShOK S B) (h : MG M B tb l s Pl mo ma nc lf op) (hn : nc < 400) {o a : Int} : ∃ M', F_Mo_emit n E S (B + 105) (iI o) (iI a) M = some M' ∧ MG M' B tb l s Pl (upF mo nc o) (upF ma nc a) (nc + 1) lf op ∧ zAg (psX B) M M' := by
  obtain ⟨M', e, h1, hA⟩ := m_emit (n := n) (E := E) hS h.2.1 hn
  exact ⟨M', e, ⟨h.1.pm hA, h1, by rw [(hA _ _ (by unfold pmX; omega)).1]; exact h.2.2⟩, psX_pm hA⟩
theorem m_plNot (hS : ShOK S B) (hn : 1000 ≤ n) (h : MG M B tb l s Pl mo ma nc lf op) (hw : wis tb l s 14836 = true) (hp : Pl.length < 400) : ∃ M', F_Mo_readPlain n E S (B + 105) M = some (iI 0, M') ∧ MG M' B tb l (sT tb l (tE tb l s)) ((28, 0) :: Pl) mo ma nc lf op ∧ zAg (psX B) M M' := by
  obtain ⟨M1, e1, h1, hA1⟩ := m_psh (n := n) (E := E) hS h hp (o := 28) (a := 0) (by omega)
  obtain ⟨M2, e2, h2, hA2⟩ := m_next' (n := n) (E := E) hS hn h1
  refine ⟨M2, ?_, h2, hA1.trans hA2⟩
  unfold wis at hw
  unfold F_Mo_readPlain
  rw [hS.ck105, obs, show (14836 : Int64) = jJ 14836 by decide, m_isWord hS h.1 (by omega) (by omega), obs, if_pos hw, show (28 : Int32) = iI 28 by decide, iL0, e1, obs, e2, obs]
theorem m_plOpen (hS : ShOK S B) (hn : 1000 ≤ n) (h : MG M B tb l s Pl mo ma nc lf op) (hs : kdT tb l s = 3 ∧ tb s = 40) (hp : Pl.length < 400) (ho : op < 8) : ∃ M', F_Mo_readPlain n E S (B + 105) M = some (iI 0, M') ∧ MG M' B tb l (sT tb l (tE tb l s)) ((31, 0) :: Pl) mo ma nc lf (op + 1) ∧ zAg (psX B) M M' := by
  obtain ⟨M1, e1, h1, hA1⟩ := m_open (n := n) (E := E) hS hn h hp ho (o := 31) (Or.inl rfl)
  refine ⟨M1, ?_, h1, hA1⟩
  unfold F_Mo_readPlain
  rw [hS.ck105, obs, show (14836 : Int64) = jJ 14836 by decide, m_isWord hS h.1 (by omega) (by omega), obs, if_neg (fun z => by have := (of_decide_eq_true z).1; omega), show (40 : Int32) = iI 40 by decide, m_isSign hS h.1 (by omega) (by omega), obs, if_pos (decide_eq_true hs), show (31 : Int32) = iI 31 by decide, e1, obs, iL0]
theorem m_plOpen0 (hS : ShOK S B) (h : MG M B tb l s Pl mo ma nc lf 8) (hk : nc + Pl.length ≤ 400) (hs : kdT tb l s = 3 ∧ tb s = 40) : ∃ M', F_Mo_readPlain n E S (B + 105) M = some (iI 0, M') ∧ MBad M' B s ∧ zAg (psB B) M M' := by
  obtain ⟨M1, e1, h1, hA1⟩ := m_open0 (n := n) (E := E) hS h hk (o := 31)
  refine ⟨M1, ?_, h1, hA1⟩
  unfold F_Mo_readPlain
  rw [hS.ck105, obs, show (14836 : Int64) = jJ 14836 by decide, m_isWord hS h.1 (by omega) (by omega), obs, if_neg (fun z => by have := (of_decide_eq_true z).1; omega), show (40 : Int32) = iI 40 by decide, m_isSign hS h.1 (by omega) (by omega), obs, if_pos (decide_eq_true hs), e1, obs, iL0]
theorem m_plPart (hS : ShOK S B) (h : MG M B tb l s Pl mo ma nc lf op) (hw : wis tb l s 14836 = false) (hs : ¬ (kdT tb l s = 3 ∧ tb s = 40)) : F_Mo_readPlain n E S (B + 105) M = F_Mo_readPart n E S (B + 105) M := by
  unfold wis at hw
  unfold F_Mo_readPlain
  rw [hS.ck105, obs, show (14836 : Int64) = jJ 14836 by decide, m_isWord hS h.1 (by omega) (by omega), obs, if_neg (nbT hw), show (40 : Int32) = iI 40 by decide, m_isSign hS h.1 (by omega) (by omega), obs, if_neg (fun z => hs (of_decide_eq_true z))]
  cases F_Mo_readPart n E S (B + 105) M with
  | none => rfl
  | some q => rfl
theorem m_btAnd (hS : ShOK S B) (hn : 1000 ≤ n) {P Q : List (Int × Int)} (hw : wis tb l s 1476 = true) (hP : P = [] ∨ ∃ y t, P = y :: t ∧ bnd y.1 < 2) (h : MG M B tb l s (Q ++ P) mo ma nc lf op) (hQ : ∀ x ∈ Q, 2 ≤ bnd x.1) (hc : nc + Q.length ≤ 400) (hp : P.length < 400) (hc2 : (flu Q (mo, ma, nc)).2.2 < 400) : ∃ M', F_Mo_behindTest n E S (B + 105) M = some (iI 0, M') ∧ MG M' B tb l (sT tb l (tE tb l s)) ((29, ((flu Q (mo, ma, nc)).2.2 : Int)) :: P) (upF (flu Q (mo, ma, nc)).1 (flu Q (mo, ma, nc)).2.2 29) (upF (flu Q (mo, ma, nc)).2.1 (flu Q (mo, ma, nc)).2.2 0) ((flu Q (mo, ma, nc)).2.2 + 1) lf op ∧ zAg (psX B) M M' := by
  obtain ⟨M1, e1, h1, hA1⟩ := m_set (n := n) (E := E) hS hn (least := 2) (by omega) hP h hQ hc
  obtain ⟨M2, e2, h2, hA2⟩ := m_psh (n := n) (E := E) hS h1 hp (o := 29) (a := ((flu Q (mo, ma, nc)).2.2 : Int)) (by omega)
  obtain ⟨M3, e3, h3, hA3⟩ := m_emt (n := n) (E := E) hS h2 hc2 (o := 29) (a := 0)
  obtain ⟨M4, e4, h4, hA4⟩ := m_next' (n := n) (E := E) hS hn h3
  refine ⟨M4, ?_, h4, ((hA1.trans hA2).trans hA3).trans hA4⟩
  unfold wis at hw
  have hw' := of_decide_eq_true hw
  unfold F_Mo_behindTest
  rw [hS.ck105, obs, show (1476 : Int64) = jJ 1476 by decide, m_isWord hS h.1 (by omega) (by omega), obs, decide_eq_true hw', show bI true = iI 1 from rfl, iL0, if_neg (show ¬ iI 1 = iI 0 by decide)]
  unfold F_Mo_behindTest_b22
  rw [iL0, if_neg (show ¬ iI 1 = iI 0 by decide), show (2 : Int32) = iI 2 by decide]
  unfold F_Mo_behindTest_b32
  rw [hS.ck105, obs, e1, obs, iL0, if_neg (show ¬ iI 1 = iI 0 by decide), show (29 : Int32) = iI 29 by decide]
  unfold F_Mo_behindTest_b47
  rw [hS.i105, obs, h1.2.1.2.1.1, hS.ck105, obs, e2, obs, iL0, if_neg (show ¬ iI 1 = iI 0 by decide), show (29 : Int32) = iI 29 by decide]
  unfold F_Mo_behindTest_b66
  rw [hS.ck105, obs, iL0, e3, obs, obs, e4, obs]
theorem m_btOr (hS : ShOK S B) (hn : 1000 ≤ n) {P Q : List (Int × Int)} (hw : wis tb l s 498 = true) (hP : P = [] ∨ ∃ y t, P = y :: t ∧ bnd y.1 < 1) (h : MG M B tb l s (Q ++ P) mo ma nc lf op) (hQ : ∀ x ∈ Q, 1 ≤ bnd x.1) (hc : nc + Q.length ≤ 400) (hp : P.length < 400) (hc2 : (flu Q (mo, ma, nc)).2.2 < 400) : ∃ M', F_Mo_behindTest n E S (B + 105) M = some (iI 0, M') ∧ MG M' B tb l (sT tb l (tE tb l s)) ((30, ((flu Q (mo, ma, nc)).2.2 : Int)) :: P) (upF (flu Q (mo, ma, nc)).1 (flu Q (mo, ma, nc)).2.2 30) (upF (flu Q (mo, ma, nc)).2.1 (flu Q (mo, ma, nc)).2.2 0) ((flu Q (mo, ma, nc)).2.2 + 1) lf op ∧ zAg (psX B) M M' := by
  obtain ⟨M1, e1, h1, hA1⟩ := m_set (n := n) (E := E) hS hn (least := 1) (by omega) hP h hQ hc
  obtain ⟨M2, e2, h2, hA2⟩ := m_psh (n := n) (E := E) hS h1 hp (o := 30) (a := ((flu Q (mo, ma, nc)).2.2 : Int)) (by omega)
  obtain ⟨M3, e3, h3, hA3⟩ := m_emt (n := n) (E := E) hS h2 hc2 (o := 30) (a := 0)
  obtain ⟨M4, e4, h4, hA4⟩ := m_next' (n := n) (E := E) hS hn h3
  refine ⟨M4, ?_, h4, ((hA1.trans hA2).trans hA3).trans hA4⟩
  unfold wis at hw
  have hw' := of_decide_eq_true hw
  unfold F_Mo_behindTest
  rw [hS.ck105, obs, show (1476 : Int64) = jJ 1476 by decide, m_isWord hS h.1 (by omega) (by omega), obs, decide_eq_false (fun z => by omega), show bI false = iI 0 from rfl, iL0, if_pos rfl, show (498 : Int64) = jJ 498 by decide, m_isWord hS h.1 (by omega) (by omega), obs, decide_eq_true hw', if_pos rfl]
  unfold F_Mo_behindTest_b22
  rw [iL0, if_pos rfl, show (1 : Int32) = iI 1 by decide]
  unfold F_Mo_behindTest_b32
  rw [hS.ck105, obs, e1, obs, iL0, if_pos rfl, show (30 : Int32) = iI 30 by decide]
  unfold F_Mo_behindTest_b47
  rw [hS.i105, obs, h1.2.1.2.1.1, hS.ck105, obs, e2, obs, iL0, if_pos rfl, show (30 : Int32) = iI 30 by decide]
  unfold F_Mo_behindTest_b66
  rw [hS.ck105, obs, iL0, e3, obs, obs, e4, obs]
theorem m_btRed (hS : ShOK S B) (hn : 1000 ≤ n) (h : MG M B tb l s Pl mo ma nc lf op) (ha : wis tb l s 1476 = false) (ho : wis tb l s 498 = false) : F_Mo_behindTest n E S (B + 105) M = if inn Pl = -1 then some (iI 4, M) else (F_Mo_must n E S (B + 105) (bI (decide (kdT tb l s = 3 ∧ tb s = 41))) M).bind fun q_21 =>
        (zgI S q_21 (B + 105) 11 19).bind fun v_22 =>
        if v_22 = iI 0 then
          (F_Mo_settle n E S (B + 105) (iI 1) q_21).bind fun q_24 =>
          (zgI S q_24 (B + 105) 11 29).bind fun v_25 =>
          (zpI S q_24 (B + 105) 11 29 (v_25 - iI 1)).bind fun m_26 =>
          (zgI S m_26 (B + 105) 11 30).bind fun v_27 =>
          (zpI S m_26 (B + 105) 11 30 (v_27 - iI 1)).bind fun m_28 =>
          some (iI 2, m_28)
        else
          some (iI 2, q_21) := by
  have hb := inn_b (M := M) (B := B) Pl h.2.1.1.2.2
  unfold wis at ha ho
  unfold F_Mo_behindTest
  rw [hS.ck105, obs, show (1476 : Int64) = jJ 1476 by decide, m_isWord hS h.1 (by omega) (by omega), obs, ha, show bI false = iI 0 from rfl, iL0, if_pos rfl, show (498 : Int64) = jJ 498 by decide, m_isWord hS h.1 (by omega) (by omega), obs, if_neg (nbT ho), m_inner hS hn h.2.1, obs]
  by_cases c : inn Pl = -1
  · rw [if_pos c, if_pos (show iI (inn Pl) = -1 by rw [c]; decide)]; rfl
  · rw [if_neg c, show (-1 : Int32) = iI (-1) by decide, if_neg (ceqF c (by omega) (by omega) (by omega) (by omega)), show (41 : Int32) = iI 41 by decide, m_isSign hS h.1 (by omega) (by omega), obs]
    rfl
theorem m_btOver (hS : ShOK S B) (hn : 1000 ≤ n) (h : MG M B tb l s Pl mo ma nc lf op) (ha : wis tb l s 1476 = false) (ho : wis tb l s 498 = false) (hi : inn Pl = -1) : F_Mo_behindTest n E S (B + 105) M = some (iI 4, M) := by
  rw [m_btRed hS hn h ha ho, if_pos hi]
theorem m_btClose0 (hS : ShOK S B) (hn : 1000 ≤ n) (h : MG M B tb l s Pl mo ma nc lf op) (hk : nc + Pl.length ≤ 400) (ha : wis tb l s 1476 = false) (ho : wis tb l s 498 = false) (hi : inn Pl ≠ -1) (hs : ¬ (kdT tb l s = 3 ∧ tb s = 41)) : ∃ M', F_Mo_behindTest n E S (B + 105) M = some (iI 2, M') ∧ MBad M' B s ∧ zAg (psB B) M M' := by
  obtain ⟨M1, e1, h1, hA1⟩ := m_must0 (n := n) (E := E) hS h hk
  refine ⟨M1, ?_, h1, hA1⟩
  rw [m_btRed hS hn h ha ho, if_neg hi, decide_eq_false hs, show bI false = iI 0 from rfl, e1, obs, hS.i105, obs, h1.1, if_neg (show ¬ iI 1 = iI 0 by decide)]
theorem m_btClose (hS : ShOK S B) (hn : 1000 ≤ n) {P Q : List (Int × Int)} {a : Int} (h : MG M B tb l s (Q ++ (31, a) :: P) mo ma nc lf (op + 1)) (ha : wis tb l s 1476 = false) (ho : wis tb l s 498 = false) (hi : inn (Q ++ (31, a) :: P) ≠ -1) (hs : kdT tb l s = 3 ∧ tb s = 41) (hQ : ∀ x ∈ Q, 1 ≤ bnd x.1) (hc : nc + Q.length ≤ 400) : ∃ M', F_Mo_behindTest n E S (B + 105) M = some (iI 2, M') ∧ MG M' B tb l (sT tb l (tE tb l s)) P (flu Q (mo, ma, nc)).1 (flu Q (mo, ma, nc)).2.1 (flu Q (mo, ma, nc)).2.2 lf op ∧ zAg (psX B) M M' := by
  obtain ⟨M1, e1, h1, hA1⟩ := m_must1 (n := n) (E := E) hS hn h
  obtain ⟨M2, e2, h2, hA2⟩ := m_set (n := n) (E := E) hS hn (least := 1) (by omega) (Or.inr ⟨(31, a), P, rfl, show bnd 31 < 1 by decide⟩) h1 hQ hc
  obtain ⟨⟨a1, a2, a3⟩, ⟨b1, b2, b3⟩, ⟨c1, c2⟩, ⟨d1, d2⟩⟩ := h2.2.1
  rw [List.length_cons] at a1 a2
  have hA3 : zAg (psX B) M2 (setI (setI M2 (B + 105) 29 (iI (P.length : Int))) (B + 105) 30 (iI (op : Int))) := (zAg.rfl'.setI (by unfold psX; omega)).setI (by unfold psX; omega)
  refine ⟨setI (setI M2 (B + 105) 29 (iI (P.length : Int))) (B + 105) 30 (iI (op : Int)), ?_, ⟨?_, ⟨⟨?_, by omega, ?_⟩, ⟨?_, b2, fun k hk => ?_⟩, ⟨?_, c2⟩, ⟨mI_s, by omega⟩⟩, ?_⟩, (hA1.trans hA2).trans hA3⟩
  · rw [m_btRed hS hn h ha ho, if_neg hi, decide_eq_true hs, show bI true = iI 1 from rfl, e1, obs, hS.i105, obs, h1.2.2, if_pos rfl, e2, obs, hS.i105, obs, a1, iI_sub, show ((P.length + 1 : Nat) : Int) - 1 = (P.length : Int) by omega, hS.p105, obs, hS.i105, obs, mI_i (by decide), d1, iI_sub, show ((op + 1 : Nat) : Int) - 1 = (op : Int) by omega, hS.p105, obs]
  · exact h2.1.ag (X := fun b j => b = B + 105 ∧ 29 ≤ j) ((zAg.rfl'.setI ⟨rfl, by omega⟩).setI ⟨rfl, by omega⟩) (fun j q1 q2 => by omega) (fun j => by omega)
  · rw [mI_i (by decide), mI_s]
  · exact a3.2.2.2.ag _ (fun k _ => ⟨by rw [mI_a (by omega), mI_a (by omega)], by rw [mI_a (by omega), mI_a (by omega)]⟩)
  · rw [mI_i (by decide), mI_i (by decide)]; exact b1
  · rw [mI_a (by omega), mI_a (by omega), mI_a (by omega), mI_a (by omega)]; exact b3 k hk
  · rw [mI_i (by decide), mI_i (by decide)]; exact c1
  · rw [mI_i (by decide), mI_i (by decide)]; exact h2.2.2
end
