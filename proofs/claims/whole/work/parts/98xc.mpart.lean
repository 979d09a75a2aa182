/-! law and orders: the model's readPart, of a law -/
section
variable {n : Nat} {E : zE} {S : zS} {M M' : zH} {B : Nat} {Pl : List (Int × Int)} {mo ma : Nat → Int} {nc lf op : Nat} {tb : Nat → Int} {l s : Nat}
theorem m_part_word (hS : ShOK S B) (hn : 1000 ≤ n) (h : MG M B tb l s Pl mo ma nc lf op) (h20 : mI M (B + 105) 20 = iI 0) (hC : ∀ i, i < 9 → mJ M (B + 120) i = jJ (cW i)) (hl : lf < 50) (hc : nc < 400) (hw : wix tb l s cW 9 ≠ -1) : ∃ M', F_Mo_readPart n E S (B + 105) M = some (iI 3, M') ∧ MG M' B tb l (sT tb l (tE tb l s)) Pl (upF mo nc (wix tb l s cW 9 + 1)) (upF ma nc 0) (nc + 1) (lf + 1) op ∧ zAg (psX B) M M' := by
  have hb := wix_b (tb := tb) (l := l) (s := s) (C := cW) (k := 9)
  have k1 : kdT tb l s = 1 := by
    by_cases z : kdT tb l s = 1
    · exact z
    · exact absurd (by unfold wix; rw [if_neg z]) hw
  obtain ⟨M', e, h1, hA⟩ := m_leaf1 (n := n) (E := E) hS hn h hl hc (o := wix tb l s cW 9 + 1) (a := 0)
  refine ⟨M', ?_, h1, hA⟩
  have e20 : mI M' (B + 105) 20 = iI 0 := by rw [(hA _ _ (by unfold psX; omega)).1]; exact h20
  have nm : ¬ iI (wix tb l s cW 9 + 1) = iI (-1) := ceqF (by omega) (by omega) (by omega) (by omega) (by omega)
  unfold F_Mo_readPart
  rw [hS.ck105, obs, show (91 : Int32) = iI 91 by decide, m_isSign hS h.1 (by omega) (by omega), obs, if_neg (fun z => by have := (of_decide_eq_true z).1; omega), hS.i105 (M := M), obs, h20, iL0, if_pos rfl, m_partAt hS hn h.1 hC, obs, if_neg hw]
  unfold F_Mo_readPart_b35
  rw [hS.i105 (M := M), obs, h.1.2.2.2.2.1, show (2 : Int32) = iI 2 by decide, if_neg (ceqF (show ¬ (kdT tb l s : Int) = 2 by omega) (by omega) (by omega) (by omega) (by omega))]
  unfold F_Mo_readPart_b59 F_Mo_readPart_b60 F_Mo_readPart_b71 F_Mo_readPart_b76 F_Mo_readPart_b86 F_Mo_readPart_b99
  rw [iL1, iI_neg, if_neg nm, if_neg nm, iL0, if_pos rfl, hS.ck105, obs, e, obs, hS.i105, obs, e20, if_pos rfl, iL3]
theorem m_part_num (hS : ShOK S B) (hn : 1000 ≤ n) (h : MG M B tb l s Pl mo ma nc lf op) (h20 : mI M (B + 105) 20 = iI 0) (hC : ∀ i, i < 9 → mJ M (B + 120) i = jJ (cW i)) (hl : lf < 50) (hc : nc < 400) (k2 : kdT tb l s = 2) (hw : wT tb l s ≤ 1000) : ∃ M', F_Mo_readPart n E S (B + 105) M = some (iI 3, M') ∧ MG M' B tb l (sT tb l (tE tb l s)) Pl (upF mo nc 0) (upF ma nc (wT tb l s)) (nc + 1) (lf + 1) op ∧ zAg (psX B) M M' := by
  have hx : wix tb l s cW 9 = -1 := by unfold wix; rw [if_neg (by omega)]
  have hb := wT_b (tb := tb) (fun k hk => ⟨(h.1.1.2.2 k hk).1, (h.1.1.2.2 k hk).2.1⟩) h.1.2.1
  obtain ⟨M', e, h1, hA⟩ := m_leaf1 (n := n) (E := E) hS hn h hl hc (o := 0) (a := wT tb l s)
  refine ⟨M', ?_, h1, hA⟩
  have e20 : mI M' (B + 105) 20 = iI 0 := by rw [(hA _ _ (by unfold psX; omega)).1]; exact h20
  unfold F_Mo_readPart
  rw [hS.ck105, obs, show (91 : Int32) = iI 91 by decide, m_isSign hS h.1 (by omega) (by omega), obs, if_neg (fun z => by have := (of_decide_eq_true z).1; omega), hS.i105 (M := M), obs, h20, iL0, if_pos rfl, m_partAt hS hn h.1 hC, obs, hx, if_pos rfl]
  unfold F_Mo_readPart_b35
  rw [hS.i105 (M := M), obs, h.1.2.2.2.2.1, show (2 : Int32) = iI 2 by decide, if_pos (ceqT (by omega)), hS.ij105 (M := M), obs, h.1.2.2.2.2.2, show (1000 : Int64) = jJ 1000 by decide, if_neg (fun z => by have := (ylt (by omega) (by omega) (by omega) (by omega)).mp z; omega)]
  unfold F_Mo_readPart_b60 F_Mo_readPart_b71 F_Mo_readPart_b76 F_Mo_readPart_b86 F_Mo_readPart_b99
  rw [iL1, iI_neg, if_pos rfl, iL0, if_neg (show ¬ iI 1 = iI 0 by decide), if_pos rfl, if_neg (show ¬ iI 1 = iI 0 by decide), hS.ij105 (M := M), obs, h.1.2.2.2.2.2, yI, hS.ck105, obs, e, obs, hS.i105, obs, e20, if_pos rfl, iL3]
theorem m_part_bad (hS : ShOK S B) (hn : 1000 ≤ n) (h : MG M B tb l s Pl mo ma nc lf op) (hk : nc + Pl.length ≤ 400) (h20 : mI M (B + 105) 20 = iI 0) (hC : ∀ i, i < 9 → mJ M (B + 120) i = jJ (cW i)) (hs : ¬ (kdT tb l s = 3 ∧ tb s = 91)) (hbad : (wix tb l s cW 9 = -1 ∧ ¬ (kdT tb l s = 2 ∧ wT tb l s ≤ 1000)) ∨ lf = 50) : ∃ M', F_Mo_readPart n E S (B + 105) M = some (iI 3, M') ∧ MBad M' B s ∧ zAg (psB B) M M' := by
  have hb := wix_b (tb := tb) (l := l) (s := s) (C := cW) (k := 9)
  have hwb := wT_b (tb := tb) (fun k hk => ⟨(h.1.1.2.2 k hk).1, (h.1.1.2.2 k hk).2.1⟩) h.1.2.1
  have hk3 := kdT_3 (tb := tb) (l := l) (s := s)
  have fin : ∀ (i : Int) (o a : Int32), (i = 0 ∨ (i = 1 ∧ lf = 50)) → ∃ M', (∀ x1 : Int32, F_Mo_readPart_b99 n E S (B + 105) x1 a o (iI i) (B + 105) M = some (iI 3, M')) ∧ MBad M' B s ∧ zAg (psB B) M M' := fun i o a hi => by
    obtain ⟨M', e, h1, hA⟩ := m_leaf0 (n := n) (E := E) hS h hk (o := o) (a := a) hi
    have e20 : mI M' (B + 105) 20 = iI 0 := by rw [(hA _ _ (by unfold psB; omega)).1]; exact h20
    refine ⟨M', fun x1 => ?_, h1, hA⟩
    unfold F_Mo_readPart_b99
    rw [hS.ck105, obs, e, obs, hS.i105, obs, e20, iL0, if_pos rfl, iL3]
  unfold F_Mo_readPart
  rw [hS.ck105, obs, show (91 : Int32) = iI 91 by decide, m_isSign hS h.1 (by omega) (by omega), obs, if_neg (fun z => hs (of_decide_eq_true z)), hS.i105 (M := M), obs, h20, iL0, if_pos rfl, m_partAt hS hn h.1 hC, obs]
  unfold F_Mo_readPart_b35
  rw [hS.i105 (M := M), obs, h.1.2.2.2.2.1, show (2 : Int32) = iI 2 by decide]
  by_cases c : wix tb l s cW 9 = -1
  · rw [if_pos c]
    by_cases k2 : kdT tb l s = 2
    · rw [if_pos (ceqT (by omega)), hS.ij105 (M := M), obs, h.1.2.2.2.2.2, show (1000 : Int64) = jJ 1000 by decide]
      by_cases d : wT tb l s ≤ 1000
      · obtain ⟨M', e, h1, hA⟩ := fin 1 (iI 0) (iI (wT tb l s)) (by
          rcases hbad with q | q
          · exact absurd ⟨k2, d⟩ q.2
          · exact Or.inr ⟨rfl, q⟩)
        refine ⟨M', ?_, h1, hA⟩
        rw [if_neg (fun z => by have := (ylt (by omega) (by omega) (by omega) (by omega)).mp z; omega)]
        unfold F_Mo_readPart_b60 F_Mo_readPart_b71 F_Mo_readPart_b76 F_Mo_readPart_b86
        rw [iL1, iI_neg, if_pos rfl, iL0, if_neg (show ¬ iI 1 = iI 0 by decide), if_pos rfl, if_neg (show ¬ iI 1 = iI 0 by decide), hS.ij105 (M := M), obs, h.1.2.2.2.2.2, yI]
        exact e _
      · obtain ⟨M', e, h1, hA⟩ := fin 0 (iI 0) (iI 0) (Or.inl rfl)
        refine ⟨M', ?_, h1, hA⟩
        rw [if_pos ((ylt (by omega) (by omega) (by omega) (by omega)).mpr (by omega))]
        unfold F_Mo_readPart_b59 F_Mo_readPart_b60 F_Mo_readPart_b76 F_Mo_readPart_b86
        rw [iL1, iI_neg, if_pos rfl, iL0, if_pos rfl, if_pos rfl, if_pos rfl]
        exact e _
    · obtain ⟨M', e, h1, hA⟩ := fin 0 (iI 0) (iI 0) (Or.inl rfl)
      refine ⟨M', ?_, h1, hA⟩
      rw [if_neg (ceqF (show ¬ (kdT tb l s : Int) = 2 by omega) (by omega) (by omega) (by omega) (by omega))]
      unfold F_Mo_readPart_b59 F_Mo_readPart_b60 F_Mo_readPart_b76 F_Mo_readPart_b86
      rw [iL1, iI_neg, if_pos rfl, iL0, if_pos rfl, if_pos rfl, if_pos rfl]
      exact e _
  · have k1 : kdT tb l s = 1 := by
      by_cases z : kdT tb l s = 1
      · exact z
      · exact absurd (by unfold wix; rw [if_neg z]) c
    have nm : ¬ iI (wix tb l s cW 9 + 1) = iI (-1) := ceqF (by omega) (by omega) (by omega) (by omega) (by omega)
    obtain ⟨M', e, h1, hA⟩ := fin 1 (iI (wix tb l s cW 9 + 1)) (iI 0) (by
      rcases hbad with q | q
      · exact absurd q.1 c
      · exact Or.inr ⟨rfl, q⟩)
    refine ⟨M', ?_, h1, hA⟩
    rw [if_neg c, if_neg (ceqF (show ¬ (kdT tb l s : Int) = 2 by omega) (by omega) (by omega) (by omega) (by omega))]
    unfold F_Mo_readPart_b59 F_Mo_readPart_b60 F_Mo_readPart_b71 F_Mo_readPart_b76 F_Mo_readPart_b86
    rw [iL1, iI_neg, if_neg nm, if_neg nm, iL0, if_pos rfl]
    exact e _
end
