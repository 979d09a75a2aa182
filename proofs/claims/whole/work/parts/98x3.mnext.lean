/-! law and orders: the model's next -/
section
variable {n : Nat} {E : zE} {S : zS} {M M' : zH} {B : Nat} {tb : Nat → Int} {l : Nat}
theorem m_114 (hS : ShOK S B) (hn : 1000 ≤ n) (hT : TM M B tb l) {s : Nat} (hs : s ≤ l) (h14 : mI M (B + 105) 14 = iI (s : Int)) (h15 : mI M (B + 105) 15 = iI (s : Int)) (h17 : mJ M (B + 105) 17 = jJ 0) : ∃ M', F_Mo_next_b114 n E S (B + 105) (iI (kdT tb l s : Int)) (B + 105) M = some M' ∧ LM M' B tb l s ∧ zAg (mtX B) M M' := by
  have hl := hT.1
  have hk3 : kdT tb l s ≤ 3 := by unfold kdT; split; omega; split; omega; split <;> omega
  have hA1 : zAg (mtX B) M (setI M (B + 105) 16 (iI (kdT tb l s : Int))) := zAg.rfl'.setI (by unfold mtX; omega)
  have g14 : mI (setI M (B + 105) 16 (iI (kdT tb l s : Int))) (B + 105) 14 = iI (s : Int) := by rw [mI_i (by decide)]; exact h14
  have g15 : mI (setI M (B + 105) 16 (iI (kdT tb l s : Int))) (B + 105) 15 = iI (s : Int) := by rw [mI_i (by decide)]; exact h15
  have g16 : mI (setI M (B + 105) 16 (iI (kdT tb l s : Int))) (B + 105) 16 = iI (kdT tb l s : Int) := mI_s
  have g17 : mJ (setI M (B + 105) 16 (iI (kdT tb l s : Int))) (B + 105) 17 = jJ 0 := h17
  unfold F_Mo_next_b114
  rw [hS.p105, obs]
  generalize setI M (B + 105) 16 (iI (kdT tb l s : Int)) = M1 at hA1 g14 g15 g16 g17
  have hT1 := hT.ag hA1 (by unfold mtX; omega) (fun j => by unfold mtX; omega)
  rw [hS.i105, obs, g16, iL3]
  by_cases c : kdT tb l s = 3
  · have hsl : s < l := by
      by_cases z : s < l
      · exact z
      · unfold kdT at c; rw [if_pos (by omega)] at c; omega
    have hx := hT.2.2 s hsl
    rw [if_pos (ceqT (by omega)), hS.g105_12, obs, hS.i105, obs, g14, hT1.rd hS hsl, obs, xJ (by omega) (by omega), hS.pj105, obs, hS.i105, obs, show mI (setJ M1 (B + 105) 17 (jJ (tb s))) (B + 105) 15 = iI (s : Int) from g15, iL1, iI_add, hS.p105, obs]
    have hA2 : zAg (mtX B) M1 (setI (setJ M1 (B + 105) 17 (jJ (tb s))) (B + 105) 15 (iI ((s : Int) + 1))) := (zAg.rfl'.setJ (by unfold mtX; omega)).setI (by unfold mtX; omega)
    have k14 : mI (setI (setJ M1 (B + 105) 17 (jJ (tb s))) (B + 105) 15 (iI ((s : Int) + 1))) (B + 105) 14 = iI (s : Int) := by rw [mI_i (by decide)]; exact g14
    have k15 : mI (setI (setJ M1 (B + 105) 17 (jJ (tb s))) (B + 105) 15 (iI ((s : Int) + 1))) (B + 105) 15 = iI ((s : Int) + 1) := mI_s
    have k16 : mI (setI (setJ M1 (B + 105) 17 (jJ (tb s))) (B + 105) 15 (iI ((s : Int) + 1))) (B + 105) 16 = iI (kdT tb l s : Int) := by rw [mI_i (by decide)]; exact g16
    have k17 : mJ (setI (setJ M1 (B + 105) 17 (jJ (tb s))) (B + 105) 15 (iI ((s : Int) + 1))) (B + 105) 17 = jJ (tb s) := by rw [mJ_setI, mJ_ite, if_pos ⟨rfl, rfl⟩]
    generalize setI (setJ M1 (B + 105) 17 (jJ (tb s))) (B + 105) 15 (iI ((s : Int) + 1)) = M2 at hA2 k14 k15 k16 k17
    have hT2 := hT1.ag hA2 (by unfold mtX; omega) (fun j => by unfold mtX; omega)
    obtain ⟨M3, e3, _, _, hA3⟩ := m_wrd (n := n) (E := E) hS hn hT2 hs (kdT tb l s) k14 k16 hk3 (fun z => by omega)
    refine ⟨M3, e3, ⟨hT2.ag hA3 (by omega) (fun j => by omega), hs, by rw [(hA3 _ _ (by omega)).1]; exact k14, ?_, by rw [(hA3 _ _ (by omega)).1]; exact k16, ?_⟩, (hA1.trans hA2).trans (hA3.mono (fun b j q => by omega))⟩
    · rw [(hA3 _ _ (by omega)).1, k15]; unfold tE; rw [if_neg (by omega), if_neg (by omega), if_neg (by omega)]; rfl
    · rw [(hA3 _ _ (by omega)).2.1, k17]; unfold wT; rw [if_neg (by omega), if_neg (by omega), if_neg (by omega)]
  · rw [if_neg (ceqF (show ¬ (kdT tb l s : Int) = 3 by omega) (by omega) (by omega) (by omega) (by omega))]
    obtain ⟨M3, e3, q1, q2, hA3⟩ := m_wrd (n := n) (E := E) hS hn hT1 hs (kdT tb l s) g14 g16 hk3 (fun z => ⟨g15, g17⟩)
    refine ⟨M3, e3, ⟨hT1.ag hA3 (by omega) (fun j => by omega), hs, by rw [(hA3 _ _ (by omega)).1]; exact g14, ?_, by rw [(hA3 _ _ (by omega)).1]; exact g16, ?_⟩, hA1.trans (hA3.mono (fun b j q => by unfold mtX; omega))⟩
    · unfold tE
      by_cases z0 : kdT tb l s = 0
      · rw [if_pos z0, (hA3 _ _ (by omega)).1]; exact g15
      · rw [if_neg z0]
        by_cases z1 : kdT tb l s = 1
        · rw [if_pos z1]; exact (q1 z1).1
        · rw [if_neg z1, if_pos (by omega)]; exact (q2 (by omega)).1
    · have ee1 : kdT tb l s = 1 → tE tb l s = sE isL tb l s := fun z => by unfold tE; rw [if_neg (by omega), if_pos z]
      have ee2 : kdT tb l s = 2 → tE tb l s = sE isD tb l s := fun z => by unfold tE; rw [if_neg (by omega), if_neg (by omega), if_pos z]
      unfold wT
      by_cases z0 : kdT tb l s = 0
      · rw [if_pos z0, (hA3 _ _ (by omega)).2.1]; exact g17
      · rw [if_neg z0]
        by_cases z1 : kdT tb l s = 1
        · rw [if_pos z1, ee1 z1]; exact (q1 z1).2
        · rw [if_neg z1, if_pos (by omega), ee2 (by omega)]; exact (q2 (by omega)).2
/-- the model's next -/
theorem m_nxt (hS : ShOK S B) (hn : 1000 ≤ n) (hT : TM M B tb l) {p : Nat} (hp : p ≤ l) (h15 : mI M (B + 105) 15 = iI (p : Int)) : ∃ M', F_Mo_next n E S (B + 105) M = some M' ∧ LM M' B tb l (sT tb l p) ∧ zAg (mtX B) M M' := by
  obtain ⟨a1, a2, a3, a4⟩ := sE_ok (c := isB) (tb := tb) hp
  have hl := hT.1
  unfold F_Mo_next F_Mo_next_b8
  rw [hS.i105, obs, h15, hS.p105, obs]
  obtain ⟨s1, w1, ⟨M1, hs1, h1, hA1⟩, e1⟩ := zfix_inv (F := fun r8 s => F_Mo_next_L8 n E S r8 s.1 s.2) (fun i s => ∃ M1, s = (B + 105, M1) ∧ mI M1 (B + 105) 14 = iI ((p + i : Nat) : Int) ∧ zAg (mtX B) M M1) (sE isB tb l p - p) (fun i hi s hI' => by
    obtain ⟨M1, rfl, h1, hA1⟩ := hI'
    have hT1 := hT.ag hA1 (by unfold mtX; omega) (fun j => by unfold mtX; omega)
    have hb := of_decide_eq_true (a3 (p + i) (by omega) (by omega))
    refine ⟨(B + 105, setI M1 (B + 105) 14 (iI (((p + i : Nat) : Int) + 1))), ⟨_, rfl, mI_s, hA1.setI (by unfold mtX; omega)⟩, fun rec => ?_⟩
    show F_Mo_next_L8 n E S rec (B + 105) M1 = _
    unfold F_Mo_next_L8
    rw [hS.i105, obs, hS.i105, obs, h1, hT1.2.1, if_neg (cleF (by omega) (by omega) (by omega)), hS.g105_12, obs, obs, hT1.rd hS (by omega), obs, hb, show (32 : Int32) = iI 32 by decide, if_pos rfl, obs, iL1, iI_add, hS.p105, obs]) n 0 (B + 105, setI M (B + 105) 14 (iI (p : Int))) (by omega) (by omega) ⟨_, rfl, mI_s, zAg.rfl'.setI (by unfold mtX; omega)⟩
  have hT1 := hT.ag hA1 (by unfold mtX; omega) (fun j => by unfold mtX; omega)
  rw [show p + (sE isB tb l p - p) = sE isB tb l p by omega] at h1
  have es : sT tb l p = sE isB tb l p := rfl
  rw [← es] at a1 a2 a4 h1
  generalize sT tb l p = s at a1 a2 a4 h1
  have hA2 : zAg (mtX B) M (setJ (setI M1 (B + 105) 15 (iI (s : Int))) (B + 105) 17 (jJ 0)) := (hA1.setI (by unfold mtX; omega)).setJ (by unfold mtX; omega)
  have g14 : mI (setJ (setI M1 (B + 105) 15 (iI (s : Int))) (B + 105) 17 (jJ 0)) (B + 105) 14 = iI (s : Int) := (mI_i (M := M1) (a := B + 105) (b := B + 105) (v := iI (s : Int)) (show 14 ≠ 15 by decide)).trans h1
  have g15 : mI (setJ (setI M1 (B + 105) 15 (iI (s : Int))) (B + 105) 17 (jJ 0)) (B + 105) 15 = iI (s : Int) := mI_s (M := M1)
  have g17 : mJ (setJ (setI M1 (B + 105) 15 (iI (s : Int))) (B + 105) 17 (jJ 0)) (B + 105) 17 = jJ 0 := by rw [mJ_ite, if_pos ⟨rfl, rfl⟩]
  have hb46 : ∃ M', F_Mo_next_b46 n E S (B + 105) M1 = some M' ∧ LM M' B tb l s ∧ zAg (mtX B) M M' := by
    unfold F_Mo_next_b46
    rw [hS.i105, obs, h1, hS.p105, obs, jL0, hS.pj105, obs]
    generalize setJ (setI M1 (B + 105) 15 (iI (s : Int))) (B + 105) 17 (jJ 0) = M2 at hA2 g14 g15 g17
    have hT2 := hT.ag hA2 (by unfold mtX; omega) (fun j => by unfold mtX; omega)
    obtain ⟨M3, e3, hL3, hA3⟩ := m_114 (n := n) (E := E) hS hn hT2 a2 g14 g15 g17
    refine ⟨M3, ?_, hL3, hA2.trans hA3⟩
    rw [hS.i105, obs, hS.i105, obs, g14, hT2.2.1]
    by_cases c : s = l
    · have k0 : kdT tb l s = 0 := by unfold kdT; rw [if_pos (by omega)]
      rw [k0] at e3
      rw [if_pos (ceqT (by omega)), iL0]; exact e3
    · have hx := hT.2.2 s (by omega)
      rw [if_neg (ceqF (show ¬ (s : Int) = (l : Int) by omega) (by omega) (by omega) (by omega) (by omega)), hS.g105_12, obs, obs, hT2.rd hS (by omega), obs, s_isSm (zR_of (by omega) (by omega)), obs]
      rcases kdT_cases (tb := tb) (show s < l by omega) with ⟨k1, k2⟩ | ⟨k1, k2, k3⟩ | ⟨k1, k2, k3⟩
      · rw [k2] at e3
        rw [if_pos k1, iL1]; exact e3
      · rw [k3] at e3
        rw [if_neg (nbT k1), hS.i105 (M := M2), obs, g14, hT2.rd hS (by omega), obs, s_isDi (zR_of (by omega) (by omega)), obs, if_pos k2, show (2 : Int32) = iI 2 by decide]; exact e3
      · rw [k3] at e3
        rw [if_neg (nbT k1), hS.i105 (M := M2), obs, g14, hT2.rd hS (by omega), obs, s_isDi (zR_of (by omega) (by omega)), obs, if_neg (nbT k2), iL3]; exact e3
  obtain ⟨M', e', hL', hA'⟩ := hb46
  refine ⟨M', ?_, hL', hA'⟩
  refine e1.trans ?_
  rw [hs1]
  show F_Mo_next_L8 n E S _ (B + 105) M1 = _
  unfold F_Mo_next_L8
  rw [hS.i105, obs, hS.i105, obs, h1, hT1.2.1]
  by_cases c : l ≤ s
  · rw [if_pos (cleT (by omega) (by omega) (by omega))]; exact e'
  · have hx := hT1.2.2 s (by omega)
    rw [if_neg (cleF (by omega) (by omega) (by omega)), hS.g105_12, obs, obs, hT1.rd hS (by omega), obs, show (32 : Int32) = iI 32 by decide, if_neg (ceqF (of_decide_eq_false (a4 (by omega))) (by omega) (by omega) (by omega) (by omega))]
    exact e'
end
