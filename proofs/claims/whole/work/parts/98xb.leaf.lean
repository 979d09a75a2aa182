/-! law and orders: the model's leaf and brackets -/
section
variable {n : Nat} {E : zE} {S : zS} {M M' : zH} {B : Nat} {Pl : List (Int × Int)} {mo ma : Nat → Int} {nc lf op : Nat} {tb : Nat → Int} {l s : Nat}
/-- the model stands in an expression, not bad -/
def MG (M : zH) (B : Nat) (tb : Nat → Int) (l s : Nat) (Pl : List (Int × Int)) (mo ma : Nat → Int) (nc lf op : Nat) : Prop := LM M B tb l s ∧ MX M B Pl mo ma nc lf op ∧ mI M (B + 105) 19 = iI 0
/-- what parsing changes -/
def psX (B : Nat) : Nat → Nat → Prop := fun b j => (b = B + 105 ∧ ((14 ≤ j ∧ j ≤ 17) ∨ j = 23 ∨ j = 26 ∨ j = 29 ∨ j = 30)) ∨ (B + 116 ≤ b ∧ b ≤ B + 119)
/-- and where it goes bad -/
def psB (B : Nat) : Nat → Nat → Prop := fun b j => (b = B + 105 ∧ ((14 ≤ j ∧ j ≤ 19) ∨ j = 23 ∨ j = 26 ∨ j = 29 ∨ j = 30)) ∨ (B + 116 ≤ b ∧ b ≤ B + 119)
theorem toB (h : zAg (psX B) M M') : zAg (psB B) M M' := h.mono (fun b j q => by unfold psX at q; unfold psB; omega)
/-- it has gone bad, at s -/
def MBad (M : zH) (B : Nat) (s : Nat) : Prop := mI M (B + 105) 19 = iI 1 ∧ mI M (B + 105) 18 = iI (s : Int) ∧ ∃ Pl mo ma nc lf op, MX M B Pl mo ma nc lf op ∧ nc + Pl.length ≤ 400
theorem psX_mt (h : zAg (mtX B) M M') : zAg (psX B) M M' := h.mono (fun b j q => by unfold mtX at q; unfold psX; omega)
theorem psX_pm (h : zAg (pmX B) M M') : zAg (psX B) M M' := h.mono (fun b j q => by unfold pmX at q; unfold psX; omega)
theorem MX.mt (h : MX M B Pl mo ma nc lf op) (hA : zAg (mtX B) M M') : MX M' B Pl mo ma nc lf op := h.ag hA (by unfold mtX; omega) (fun b j q1 q2 => by unfold mtX; omega)
theorem LM.pm (h : LM M B tb l s) (hA : zAg (pmX B) M M') : LM M' B tb l s := h.ag hA (fun j q1 q2 => by unfold pmX; omega) (fun j => by unfold pmX; omega)
theorem m_next' (hS : ShOK S B) (hn : 1000 ≤ n) (h : MG M B tb l s Pl mo ma nc lf op) : ∃ M', F_Mo_next n E S (B + 105) M = some M' ∧ MG M' B tb l (sT tb l (tE tb l s)) Pl mo ma nc lf op ∧ zAg (psX B) M M' := by
  obtain ⟨M', e, h1, h2⟩ := m_nxt (n := n) (E := E) hS hn h.1.1 (tE_b h.1.2.1).2.1 h.1.2.2.2.1
  exact ⟨M', e, ⟨h1, h.2.1.mt h2, by rw [(h2 _ _ (by unfold mtX; omega)).1]; exact h.2.2⟩, psX_mt h2⟩
theorem m_must1 (hS : ShOK S B) (hn : 1000 ≤ n) (h : MG M B tb l s Pl mo ma nc lf op) : ∃ M', F_Mo_must n E S (B + 105) (iI 1) M = some M' ∧ MG M' B tb l (sT tb l (tE tb l s)) Pl mo ma nc lf op ∧ zAg (psX B) M M' := by
  obtain ⟨M', e, h1, h2⟩ := m_mustT (n := n) (E := E) hS hn h.1 h.2.2
  exact ⟨M', e, ⟨h1, h.2.1.mt h2, by rw [(h2 _ _ (by unfold mtX; omega)).1]; exact h.2.2⟩, psX_mt h2⟩
theorem m_must0 (hS : ShOK S B) (h : MG M B tb l s Pl mo ma nc lf op) (hk : nc + Pl.length ≤ 400) : ∃ M', F_Mo_must n E S (B + 105) (iI 0) M = some M' ∧ MBad M' B s ∧ zAg (psB B) M M' := by
  refine ⟨_, m_mustF hS h.1 h.2.2, ⟨by rw [mI_i (by decide), mI_s], mI_s, Pl, mo, ma, nc, lf, op, h.2.1.ag (X := fun b j => b = B + 105 ∧ (j = 18 ∨ j = 19)) ((zAg.rfl'.setI ⟨rfl, Or.inr rfl⟩).setI ⟨rfl, Or.inl rfl⟩) (by omega) (fun b j q1 q2 => by omega), hk⟩, (zAg.rfl'.setI (by unfold psB; omega)).setI (by unfold psB; omega)⟩
theorem m_leaf1 (hS : ShOK S B) (hn : 1000 ≤ n) (h : MG M B tb l s Pl mo ma nc lf op) (hl : lf < 50) (hc : nc < 400) {o a : Int} : ∃ M', F_Mo_leaf n E S (B + 105) (iI 1) (iI o) (iI a) M = some M' ∧ MG M' B tb l (sT tb l (tE tb l s)) Pl (upF mo nc o) (upF ma nc a) (nc + 1) (lf + 1) op ∧ zAg (psX B) M M' := by
  obtain ⟨M1, e1, h1, hA1⟩ := m_must1 (n := n) (E := E) hS hn h
  obtain ⟨M2, e2, h2, hA2⟩ := m_emit (n := n) (E := E) hS h1.2.1 hc (o := o) (a := a)
  have hA3 : zAg (psX B) M2 (setI M2 (B + 105) 26 (iI ((lf : Int) + 1))) := zAg.rfl'.setI (by unfold psX; omega)
  refine ⟨setI M2 (B + 105) 26 (iI ((lf : Int) + 1)), ?_, ⟨?_, ?_, ?_⟩, (hA1.trans (psX_pm hA2)).trans hA3⟩
  · unfold F_Mo_leaf F_Mo_leaf_b19
    rw [iL0, if_neg (show ¬ iI 1 = iI 0 by decide), hS.i105, obs, h.2.1.2.2.1.1, show (50 : Int32) = iI 50 by decide, if_neg (cleF (by omega) (by omega) (by omega)), hS.ck105, obs, iL1, e1, obs, hS.i105, obs, h1.2.2, if_pos rfl, e2, obs, hS.i105, obs, h2.2.2.1.1, iI_add, hS.p105, obs]
  · exact (h1.1.pm hA2).ag (X := fun b j => b = B + 105 ∧ j = 26) (zAg.rfl'.setI ⟨rfl, rfl⟩) (fun j q1 q2 => by omega) (fun j => by omega)
  · obtain ⟨⟨a1, a2, a3⟩, ⟨b1, b2, b3⟩, ⟨c1, c2⟩, ⟨d1, d2⟩⟩ := h2
    exact ⟨⟨by rw [mI_i (by decide)]; exact a1, a2, a3.ag _ (fun k _ => ⟨by rw [mI_a (by omega)], by rw [mI_a (by omega)]⟩)⟩, ⟨by rw [mI_i (by decide)]; exact b1, b2, fun k hk => by rw [mI_a (by omega), mI_a (by omega)]; exact b3 k hk⟩, ⟨mI_s, by omega⟩, ⟨by rw [mI_i (by decide)]; exact d1, d2⟩⟩
  · rw [mI_i (by decide), (hA2 _ _ (by unfold pmX; omega)).1]; exact h1.2.2
/-- no leaf, or too many -/
theorem m_leaf0 (hS : ShOK S B) (h : MG M B tb l s Pl mo ma nc lf op) (hk : nc + Pl.length ≤ 400) {i : Int} {o a : Int32} (hi : i = 0 ∨ (i = 1 ∧ lf = 50)) : ∃ M', F_Mo_leaf n E S (B + 105) (iI i) o a M = some M' ∧ MBad M' B s ∧ zAg (psB B) M M' := by
  obtain ⟨M1, e1, h1, hA1⟩ := m_must0 (n := n) (E := E) hS h hk
  refine ⟨M1, ?_, h1, hA1⟩
  have e19 : F_Mo_leaf_b19 n E S (B + 105) o a 0 (B + 105) M = some M1 := by
    unfold F_Mo_leaf_b19
    rw [hS.ck105, obs, iL0, e1, obs, hS.i105, obs, h1.1, if_neg (show ¬ iI 1 = iI 0 by decide)]
  unfold F_Mo_leaf F_Mo_leaf_b18
  rcases hi with q | ⟨q, q2⟩
  · rw [q, iL0, if_pos rfl]; exact e19
  · rw [q, if_neg (show ¬ iI 1 = 0 by decide), hS.i105, obs, h.2.1.2.2.1.1, show (50 : Int32) = iI 50 by decide, if_pos (cleT (by omega) (by omega) (by omega))]; exact e19
theorem m_open (hS : ShOK S B) (hn : 1000 ≤ n) (h : MG M B tb l s Pl mo ma nc lf op) (hp : Pl.length < 400) (ho : op < 8) {o : Int} (h31 : o = 31 ∨ o = 32) : ∃ M', F_Mo_openBracket n E S (B + 105) (iI o) M = some M' ∧ MG M' B tb l (sT tb l (tE tb l s)) ((o, 0) :: Pl) mo ma nc lf (op + 1) ∧ zAg (psX B) M M' := by
  obtain ⟨M1, e1, h1, hA1⟩ := m_must1 (n := n) (E := E) hS hn h
  have hA2 : zAg (psX B) M1 (setI M1 (B + 105) 30 (iI ((op : Int) + 1))) := zAg.rfl'.setI (by unfold psX; omega)
  have h2 : MX (setI M1 (B + 105) 30 (iI ((op : Int) + 1))) B Pl mo ma nc lf (op + 1) := by
    obtain ⟨⟨a1, a2, a3⟩, ⟨b1, b2, b3⟩, ⟨c1, c2⟩, ⟨d1, d2⟩⟩ := h1.2.1
    exact ⟨⟨by rw [mI_i (by decide)]; exact a1, a2, a3.ag _ (fun k _ => ⟨by rw [mI_a (by omega)], by rw [mI_a (by omega)]⟩)⟩, ⟨by rw [mI_i (by decide)]; exact b1, b2, fun k hk => by rw [mI_a (by omega), mI_a (by omega)]; exact b3 k hk⟩, ⟨by rw [mI_i (by decide)]; exact c1, c2⟩, ⟨mI_s, by omega⟩⟩
  obtain ⟨M3, e3, h3, hA3⟩ := m_push (n := n) (E := E) hS h2 hp (o := o) (a := 0) (by omega)
  refine ⟨M3, ?_, ⟨?_, h3, ?_⟩, (hA1.trans hA2).trans (psX_pm hA3)⟩
  · unfold F_Mo_openBracket F_Mo_openBracket_b15
    rw [hS.i105, obs, h.2.1.2.2.2.1, iL8, if_neg (cleF (by omega) (by omega) (by omega)), hS.ck105, obs, iL1, e1, obs, hS.i105, obs, h1.2.2, iL0, if_pos rfl, hS.i105, obs, h1.2.1.2.2.2.1, iI_add, hS.p105, obs, e3, obs]
  · exact (h1.1.ag (X := fun b j => b = B + 105 ∧ j = 30) (zAg.rfl'.setI ⟨rfl, rfl⟩) (fun j q1 q2 => by omega) (fun j => by omega)).pm hA3
  · rw [(hA3 _ _ (by unfold pmX; omega)).1, mI_i (by decide)]; exact h1.2.2
theorem m_open0 (hS : ShOK S B) (h : MG M B tb l s Pl mo ma nc lf 8) (hk : nc + Pl.length ≤ 400) {o : Int32} : ∃ M', F_Mo_openBracket n E S (B + 105) o M = some M' ∧ MBad M' B s ∧ zAg (psB B) M M' := by
  obtain ⟨M1, e1, h1, hA1⟩ := m_must0 (n := n) (E := E) hS h hk
  refine ⟨M1, ?_, h1, hA1⟩
  unfold F_Mo_openBracket F_Mo_openBracket_b15
  rw [hS.i105, obs, h.2.1.2.2.2.1, iL8, if_pos (cleT (by omega) (by omega) (by omega)), hS.ck105, obs, iL0, e1, obs, hS.i105, obs, h1.1, if_neg (show ¬ iI 1 = iI 0 by decide)]
end
