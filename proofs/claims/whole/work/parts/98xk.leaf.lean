/-! law and orders: the simulation: numbers and words -/
def foO (w : Int) : Int := if w = 4 then 4 else if w = 5 then 8 else 11
theorem zsta_ok : (zsta 1 (iI 0) = some (iI 3) ∧ zsta 1 (iI 1) = some (iI 2) ∧ zsta 1 (iI 2) = some (iI 7)) ∧ (zsta 2 (iI 0) = some (iI 4) ∧ zsta 2 (iI 1) = some (iI 8) ∧ zsta 2 (iI 2) = some (iI 11)) := by decide
theorem zsta_w {w : Int} (h : 4 ≤ w) (h2 : w < 7) : zsta 1 (iI (w - 4)) = some (iI (lmO w)) ∧ zsta 2 (iI (w - 4)) = some (iI (foO w)) := by
  obtain ⟨⟨a1, a2, a3⟩, b1, b2, b3⟩ := zsta_ok
  unfold lmO foO
  by_cases c : w = 4
  · rw [if_pos c, if_pos c, c]; exact ⟨a1, b1⟩
  · rw [if_neg c, if_neg c]
    by_cases c2 : w = 5
    · rw [if_pos c2, if_pos c2, c2]; exact ⟨a2, b2⟩
    · rw [if_neg c2, if_neg c2, show w = 6 by omega]; exact ⟨a3, b3⟩
section
variable {n : Nat} {E : zE} {S : zS} {M M' : zH} {B : Nat} {ord : Bool} {tb : Nat → Int} {l cl s s' dp : Nat} {st : Nat → Int} {len pt wm : Nat} {tt t0 te L : Int} {rc : Nat × Int32 × zH → Option (Bool × zH)} {x1 : Int32}
theorem p_50 (hS : ShOK S B) (hC : CS M B ord tb l cl s st len pt wm) (hq : ¬ (kdT tb l s = 3 ∧ tb s = 91)) (hp : ¬ pt < 50) : F_Ps_readPart n E S rc (B + 69) x1 M = some (false, M) := by
  have hp5 := hC.2.1.2.2
  unfold F_Ps_readPart
  rw [hS.g69_1, obs, hS.ck67, obs, show (91 : Int32) = iI 91 by decide, s_atSign hS hC.1 (by omega) (by omega), obs, if_neg (fun z => hq (of_decide_eq_true z)), hS.i69 (M := M), obs, hC.2.1.2.1, show (50 : Int32) = iI 50 by decide, if_neg (cltF (by omega) (by omega) (by omega))]
theorem p_num (hS : ShOK S B) (hC : CS M B ord tb l cl s st len pt wm) (hq : ¬ (kdT tb l s = 3 ∧ tb s = 91)) (hp : pt < 50) (hk : kdT tb l s = 2 ∧ 0 ≤ vT tb l s ∧ vT tb l s ≤ 1000) : F_Ps_readPart n E S rc (B + 69) x1 M = (F_Te_add n E S (B + 70) (iI 0) (iI (vT tb l s)) (setI M (B + 69) 3 (iI ((pt : Int) + 1)))).bind fun q_28 => (F_Ta_advance n E S (B + 67) q_28.2).bind fun q_29 => some (true, q_29) := by
  unfold F_Ps_readPart
  rw [hS.g69_1, obs, hS.ck67, obs, show (91 : Int32) = iI 91 by decide, s_atSign hS hC.1 (by omega) (by omega), obs, if_neg (fun z => hq (of_decide_eq_true z)), hS.i69 (M := M), obs, hC.2.1.2.1, show (50 : Int32) = iI 50 by decide, if_pos (cltT (by omega) (by omega) (by omega)), obs, iL1, iI_add, hS.p69 (M := M), obs, iL0, show (1000 : Int32) = iI 1000 by decide, s_atNumber hS (hC.prt hp).1.1 (by omega) (by omega) (by omega) (by omega), obs, if_pos (decide_eq_true hk), hS.g69_0, obs, s_num hS (hC.prt hp).1.1, obs, hS.ck70, obs]
theorem p_wd (hS : ShOK S B) (hC : CS M B ord tb l cl s st len pt wm) (hq : ¬ (kdT tb l s = 3 ∧ tb s = 91)) (hp : pt < 50) (hk : ¬ (kdT tb l s = 2 ∧ 0 ≤ vT tb l s ∧ vT tb l s ≤ 1000)) : F_Ps_readPart n E S rc (B + 69) x1 M = F_Ps_readPart_b96 n E S rc (B + 69) (if ord = true then 4 else 5) (B + 67) (setI M (B + 69) 3 (iI ((pt : Int) + 1))) := by
  have h2 := (hC.prt hp).1.2.2.1
  unfold F_Ps_readPart
  rw [hS.g69_1, obs, hS.ck67, obs, show (91 : Int32) = iI 91 by decide, s_atSign hS hC.1 (by omega) (by omega), obs, if_neg (fun z => hq (of_decide_eq_true z)), hS.i69 (M := M), obs, hC.2.1.2.1, show (50 : Int32) = iI 50 by decide, if_pos (cltT (by omega) (by omega) (by omega)), obs, iL1, iI_add, hS.p69 (M := M), obs, iL0, show (1000 : Int32) = iI 1000 by decide, s_atNumber hS (hC.prt hp).1.1 (by omega) (by omega) (by omega) (by omega), obs, if_neg (fun z => hk (of_decide_eq_true z)), hS.i69 (M := setI M (B + 69) 3 (iI ((pt : Int) + 1))), obs, h2]
  cases ord
  · rw [if_pos (show bI false = iI 0 from rfl), if_neg (by decide)]
  · rw [if_neg (show ¬ bI true = iI 0 by decide), if_pos rfl]
/-- a number -/
theorem sim_num (hS : ShOK S B) (hn : 1000 ≤ n) (hC : CS M B ord tb l cl s st len pt wm) (hl : len ≤ s) (hst : pst tb l s t0) (hq : ¬ (kdT tb l s = 3 ∧ tb s = 91)) (hp : pt < 50) (hk : kdT tb l s = 2 ∧ 0 ≤ vT tb l s ∧ vT tb l s ≤ 1000) : Sim n E S B ord tb l cl 7 tt t0 3 dp s st len pt wm M (fun _ _ => True) (F_Ps_readPart n E S rc (B + 69) x1 M) := by
  have sb := nx_b (tb := tb) hC.1.2.1
  have sb2 := sb.2.2 (by omega)
  have hsl := kdT_l (tb := tb) (l := l) (s := s) (by omega)
  have hl4 := hC.1.1.1
  have ew : vT tb l s = wT tb l s := by
    rcases vw (tb := tb) hC.1.2.1 hk.1 with q | q
    · exact q.1
    · omega
  obtain ⟨g1, hA1⟩ := hC.prt hp
  obtain ⟨M2, e2, g2, hA2⟩ := g1.add (n := n) (E := E) hS (by omega) (o := 0) (v := vT tb l s) (by omega) hk.2
  obtain ⟨M3, e3, g3, hA3⟩ := g2.adv (n := n) (E := E) hS hn
  refine Or.inr ⟨M3, nx tb l s, _, _, _, _, fun _ => some (vT tb l s), ?_, (hA1.trans hA2).trans hA3, g3, ⟨fun p hp => upF_n (by omega), ?_, fun w w' e => rfl, wsub.rfl', by omega, sb2, by omega⟩, ?_, trivial⟩
  · rw [p_num hS hC hq hp hk, e2, obs, e3, obs]
  · rw [show pt + 1 - pt = 1 by omega]
    exact sgC.num (by rw [upF_s]; omega) (by rw [upF_s]; omega)
  · refine okm_leaf (o := 0) (a := wT tb l s) hst sb2 (fun mo ma nc => by rw [ew]; exact cd_num ⟨by decide, by omega, by omega, Or.inl rfl⟩) (fun S' hS' MM Pl mo ma nc h => ?_)
    obtain ⟨h1, h2, h3, h4⟩ := h
    cases ord
    · exact m_part_num hS' hn h1.1 h1.2.1 h1.2.2.1 hp (by omega) hk.1 (by omega)
    · exact m_opart_num hS' hn h1.1 h1.2.1 h1.2.2.2 hp (by omega) hk.1 (by omega)
theorem vw_n (hs : s ≤ l) {a b : Int} (hb : b ≤ 1000) : (kdT tb l s = 2 ∧ a ≤ vT tb l s ∧ vT tb l s ≤ b) ↔ (kdT tb l s = 2 ∧ a ≤ wT tb l s ∧ wT tb l s ≤ b) := by
  by_cases k : kdT tb l s = 2
  · rcases vw (tb := tb) hs k with q | q
    · rw [q.1]
    · constructor
      · intro z; omega
      · intro z; omega
  · constructor
    · intro z; exact absurd z.1 k
    · intro z; exact absurd z.1 k
/-- a word of a law -/
theorem sim_wdL (hS : ShOK S B) (hn : 1000 ≤ n) (hC : CS M B false tb l cl s st len pt wm) (hl : len ≤ s) (hst : pst tb l s t0) (hq : ¬ (kdT tb l s = 3 ∧ tb s = 91)) (hp : pt < 50) (hk : ¬ (kdT tb l s = 2 ∧ 0 ≤ vT tb l s ∧ vT tb l s ≤ 1000)) : Sim n E S B false tb l cl 7 tt t0 3 dp s st len pt wm M (fun _ _ => True) (F_Ps_readPart n E S rc (B + 69) x1 M) := by
  have sb := nx_b (tb := tb) hC.1.2.1
  have hl4 := hC.1.1.1
  have hb := wix_b (tb := tb) (l := l) (s := s) (C := cW) (k := 9)
  obtain ⟨g1, hA1⟩ := hC.prt hp
  have hk' := fun z => hk ((vw_n (tb := tb) (a := 0) (b := 1000) hC.1.2.1 (by omega)).mpr z)
  have vb := vT_b (tb := tb) (l := l) (s := s) hC.1.2.1
  by_cases c : wix tb l s cW 9 = -1
  · refine Or.inl ⟨_, s, ?_, hA1, g1.1.2.2.2.1, bad_leaf hst (Nat.le_refl _) hC.1.2.1 (fun S' hS' MM Pl mo ma nc h => ?_)⟩
    · rw [p_wd hS hC hq hp hk, if_neg (by decide)]
      unfold F_Ps_readPart_b96
      rw [hS.ck67, obs, (s_words hS hn g1.1).1, obs, c, if_pos (show iI (-1) = -1 by decide)]
    · obtain ⟨h1, h2, h3, h4⟩ := h
      have hwb := wT_b (tb := tb) (fun k hk => ⟨(h1.1.1.1.2.2 k hk).1, (h1.1.1.1.2.2 k hk).2.1⟩) hC.1.2.1
      obtain ⟨MM', e, g, z⟩ := m_part_bad (n := n) (E := E) hS' hn h1.1 (by have := hC.1.2.1; have := hC.1.1.1; omega) h1.2.1 h1.2.2.1 hq (Or.inl ⟨c, fun z => by
        rcases vw (tb := tb) hC.1.2.1 z.1 with q | q
        · exact hk ⟨z.1, by omega, by omega⟩
        · omega⟩)
      exact ⟨3, MM', e, g, z⟩
  · have k1 : kdT tb l s = 1 := by
      by_cases z : kdT tb l s = 1
      · exact z
      · exact absurd (by unfold wix; rw [if_neg z]) c
    have sb2 := sb.2.2 (by omega)
    have hsl := kdT_l (tb := tb) (l := l) (s := s) (by omega)
    obtain ⟨M2, e2, g2, hA2⟩ := g1.adv (n := n) (E := E) hS hn
    obtain ⟨k, hkk⟩ : ∃ k : Nat, wix tb l s cW 9 = (k : Int) := ⟨(wix tb l s cW 9).toNat, by omega⟩
    obtain ⟨M3, e3, g3, hA3⟩ := g2.addw (n := n) (E := E) hS (by omega) (w := k) (by omega)
    refine Or.inr ⟨M3, nx tb l s, _, _, _, _, fun w => some (w k), ?_, (hA1.trans hA2).trans hA3, g3, ⟨fun p hp => upF_n (by omega), ?_, fun w w' e => by show some (w k) = some (w' k); rw [e k (Or.inl (by omega))], wsub.or, by omega, sb2, by omega⟩, ?_, trivial⟩
    · rw [p_wd hS hC hq hp hk, if_neg (by decide)]
      unfold F_Ps_readPart_b96
      rw [hS.ck67, obs, (s_words hS hn g1.1).1, obs, hkk, if_neg (show ¬ iI (k : Int) = -1 from ceqF (y := -1) (by omega) (by omega) (by omega) (by omega) (by omega)), hS.g69_1, obs, hS.ck67, obs, e2, obs, hS.i69, obs, g2.2.2.1, if_pos (show bI false = 0 from rfl)]
      unfold F_Ps_readPart_b134
      rw [hS.g69_0, obs, hS.ck70, obs, e3, obs]
    · rw [show pt + 1 - pt = 1 by omega]
      exact sgC.wrd (by rw [upF_s]; omega) (by rw [upF_s]; omega) (show k < 9 by omega)
    · refine okm_leaf (o := (k : Int) + 1) (a := 0) hst sb2 (fun mo ma nc => cd_word (by omega) (by omega) ⟨by omega, by decide, by decide, Or.inr (Or.inl ⟨rfl, by omega⟩)⟩ (show ((k : Int) + 1 - 1).toNat = k by omega)) (fun S' hS' MM Pl mo ma nc h => ?_)
      obtain ⟨h1, h2, h3, h4⟩ := h
      have := m_part_word (n := n) (E := E) hS' hn h1.1 h1.2.1 h1.2.2.1 hp (by omega) c
      rw [hkk] at this
      exact this
/-- a word of orders -/
theorem sim_wdO (hS : ShOK S B) (hn : 1000 ≤ n) (hC : CS M B true tb l cl s st len pt wm) (hl : len ≤ s) (hst : pst tb l s t0) (hq : ¬ (kdT tb l s = 3 ∧ tb s = 91)) (hp : pt < 50) (hk : ¬ (kdT tb l s = 2 ∧ 0 ≤ vT tb l s ∧ vT tb l s ≤ 1000)) : Sim n E S B true tb l cl 7 tt t0 3 dp s st len pt wm M (fun _ _ => True) (F_Ps_readPart n E S rc (B + 69) x1 M) := by
  have sb := nx_b (tb := tb) hC.1.2.1
  have hl4 := hC.1.1.1
  have hb := wix_b (tb := tb) (l := l) (s := s) (C := cO) (k := 7)
  obtain ⟨g1, hA1⟩ := hC.prt hp
  have vb := vT_b (tb := tb) (l := l) (s := s) hC.1.2.1
  by_cases c : wix tb l s cO 7 = -1
  · refine Or.inl ⟨_, s, ?_, hA1, g1.1.2.2.2.1, bad_leaf hst (Nat.le_refl _) hC.1.2.1 (fun S' hS' MM Pl mo ma nc h => ?_)⟩
    · rw [p_wd hS hC hq hp hk, if_pos rfl]
      unfold F_Ps_readPart_b96
      rw [hS.ck67, obs, (s_words hS hn g1.1).2.1, obs, c, if_pos (show iI (-1) = -1 by decide)]
    · obtain ⟨h1, h2, h3, h4⟩ := h
      obtain ⟨MM', e, g, z⟩ := m_opart_bad (n := n) (E := E) hS' hn h1.1 (by have := hC.1.2.1; have := hC.1.1.1; omega) h1.2.1 h1.2.2.2 hq (Or.inl ⟨c, fun z => by
        rcases vw (tb := tb) hC.1.2.1 z.1 with q | q
        · exact hk ⟨z.1, by omega, by omega⟩
        · omega⟩)
      exact ⟨3, MM', e, g, z⟩
  · have k1 : kdT tb l s = 1 := by
      by_cases z : kdT tb l s = 1
      · exact z
      · exact absurd (by unfold wix; rw [if_neg z]) c
    have sb2 := sb.2.2 (by omega)
    have hsl := kdT_l (tb := tb) (l := l) (s := s) (by omega)
    obtain ⟨M2, e2, g2, hA2⟩ := g1.adv (n := n) (E := E) hS hn
    by_cases c4 : wix tb l s cO 7 < 4
    · obtain ⟨k, hkk⟩ : ∃ k : Nat, wix tb l s cO 7 = (k : Int) := ⟨(wix tb l s cO 7).toNat, by omega⟩
      obtain ⟨M3, e3, g3, hA3⟩ := g2.addw (n := n) (E := E) hS (by omega) (w := k) (by omega)
      refine Or.inr ⟨M3, nx tb l s, _, _, _, _, fun w => some (w k), ?_, (hA1.trans hA2).trans hA3, g3, ⟨fun p hp => upF_n (by omega), ?_, fun w w' e => by show some (w k) = some (w' k); rw [e k (Or.inl (by omega))], wsub.or, by omega, sb2, by omega⟩, ?_, trivial⟩
      · rw [p_wd hS hC hq hp hk, if_pos rfl]
        unfold F_Ps_readPart_b96
        rw [hS.ck67, obs, (s_words hS hn g1.1).2.1, obs, hkk, if_neg (show ¬ iI (k : Int) = -1 from ceqF (y := -1) (by omega) (by omega) (by omega) (by omega) (by omega)), hS.g69_1, obs, hS.ck67, obs, e2, obs, hS.i69, obs, g2.2.2.1, if_neg (show ¬ bI true = 0 by decide), show (4 : Int32) = iI 4 by decide, if_pos (cltT (by omega) (by omega) (by omega))]
        unfold F_Ps_readPart_b134
        rw [hS.g69_0, obs, hS.ck70, obs, e3, obs]
      · rw [show pt + 1 - pt = 1 by omega]
        exact sgC.wrd (by rw [upF_s]; omega) (by rw [upF_s]; omega) (show k < 19 by omega)
      · refine okm_leaf (o := (k : Int) + 1) (a := 0) hst sb2 (fun mo ma nc => cd_word (by omega) (by omega) ⟨by omega, by decide, by decide, Or.inr (Or.inr ⟨rfl, Or.inl (by omega)⟩)⟩ (by unfold li; rw [if_pos rfl, if_pos (by omega)]; omega)) (fun S' hS' MM Pl mo ma nc h => ?_)
        obtain ⟨h1, h2, h3, h4⟩ := h
        have := m_opart_word (n := n) (E := E) hS' hn h1.1 h1.2.1 h1.2.2.2 hp (by omega) c c4
        rw [hkk] at this
        exact this
    · have zs := zsta_w (w := wix tb l s cO 7) (by omega) (by omega)
      have lb := lmO_b (w := wix tb l s cO 7)
      have fb : 4 ≤ foO (wix tb l s cO 7) ∧ foO (wix tb l s cO 7) + lmO (wix tb l s cO 7) < 19 := by unfold foO lmO; split; omega; split <;> omega
      have pre : F_Ps_readPart n E S rc (B + 69) x1 M = (F_Ps_readNumberOf n E S (B + 69) (iI (wix tb l s cO 7 - 4)) M2).bind fun q_13 => some (q_13.1, q_13.2) := by
        rw [p_wd hS hC hq hp hk, if_pos rfl]
        unfold F_Ps_readPart_b96
        rw [hS.ck67, obs, (s_words hS hn g1.1).2.1, obs, if_neg (show ¬ iI (wix tb l s cO 7) = -1 from ceqF (y := -1) (by omega) (by omega) (by omega) (by omega) (by omega)), hS.g69_1, obs, hS.ck67, obs, e2, obs, hS.i69, obs, g2.2.2.1, if_neg (show ¬ bI true = 0 by decide), show (4 : Int32) = iI 4 by decide, if_neg (cltF (by omega) (by omega) (by omega)), iI_sub]
      rw [pre]
      have vb2 := vT_b (tb := tb) (l := l) (s := nx tb l s) g2.1.2.1
      by_cases d : kdT tb l (nx tb l s) = 2 ∧ 0 ≤ vT tb l (nx tb l s) ∧ vT tb l (nx tb l s) ≤ lmO (wix tb l s cO 7)
      · have d' := (vw_n (tb := tb) (a := 0) (b := lmO (wix tb l s cO 7)) g2.1.2.1 (by omega)).mp d
        have ew : vT tb l (nx tb l s) = wT tb l (nx tb l s) := by
          rcases vw (tb := tb) g2.1.2.1 d.1 with q | q
          · exact q.1
          · omega
        have sb3 := (nx_b (tb := tb) g2.1.2.1).2.2 (by omega)
        obtain ⟨k, hkk⟩ : ∃ k : Nat, foO (wix tb l s cO 7) + vT tb l (nx tb l s) = (k : Int) := ⟨(foO (wix tb l s cO 7) + vT tb l (nx tb l s)).toNat, by omega⟩
        obtain ⟨M3, e3, g3, hA3⟩ := g2.addw (n := n) (E := E) hS (by omega) (w := k) (by omega)
        obtain ⟨M4, e4, g4, hA4⟩ := g3.adv (n := n) (E := E) hS hn
        refine Or.inr ⟨M4, nx tb l (nx tb l s), _, _, _, _, fun w => some (w k), ?_, ((hA1.trans hA2).trans hA3).trans hA4, g4, ⟨fun p hp => upF_n (by omega), ?_, fun w w' e => by show some (w k) = some (w' k); rw [e k (Or.inr (by rw [Nat.testBit_or, Nat.testBit_two_pow_self, Bool.or_true]))], wsub.or, by omega, by omega, by omega⟩, ?_, trivial⟩
        · unfold F_Ps_readNumberOf
          rw [iL0, show (nI (zSta 1).length) - 1 = iI 2 by decide, s_withinI (zR_of (by omega) (by omega)) (zR_of (by omega) (by omega)) (zR_of (by omega) (by omega)), obs, if_pos (decide_eq_true (by omega)), hS.g69_1, obs, zs.1, obs, hS.ck67, obs, s_atNumber hS g2.1 (by omega) (by omega) (by omega) (by omega), obs, if_pos (decide_eq_true d), hS.g69_0, obs, zs.2, obs, s_num hS g2.1, obs, hS.ck70, obs, iI_add, hkk, e3, obs, e4, obs, obs]
        · rw [show pt + 1 - pt = 1 by omega]
          exact sgC.wrd (by rw [upF_s]; omega) (by rw [upF_s]; omega) (show k < 19 by omega)
        · refine okm_leaf (o := wix tb l s cO 7 + 1) (a := wT tb l (nx tb l s)) hst (by omega) (fun mo ma nc => cd_word (by omega) (by omega) ⟨by omega, by omega, by omega, Or.inr (Or.inr ⟨rfl, ?_⟩)⟩ ?_) (fun S' hS' MM Pl mo ma nc h => ?_)
          · unfold lmO at d'
            by_cases q4 : wix tb l s cO 7 = 4
            · rw [if_pos q4] at d'; omega
            · rw [if_neg q4] at d'
              by_cases q5 : wix tb l s cO 7 = 5
              · rw [if_pos q5] at d'; omega
              · rw [if_neg q5] at d'; omega
          · unfold foO at hkk
            unfold li
            rw [if_pos rfl, if_neg (by omega)]
            by_cases q4 : wix tb l s cO 7 = 4
            · rw [if_pos q4] at hkk; rw [if_pos (by omega)]; omega
            · rw [if_neg q4] at hkk; rw [if_neg (by omega)]
              by_cases q5 : wix tb l s cO 7 = 5
              · rw [if_pos q5] at hkk; rw [if_pos (by omega)]; omega
              · rw [if_neg q5] at hkk; rw [if_neg (by omega)]; omega
          · obtain ⟨h1, h2, h3, h4⟩ := h
            exact m_opart_wn (n := n) (E := E) hS' hn h1.1 h1.2.1 h1.2.2.2 hp (by omega) (by omega) rfl d'.1 d'.2
      · refine Or.inl ⟨M2, nx tb l s, ?_, hA1.trans hA2, g2.1.2.2.2.1, bad_leaf hst sb.1 sb.2.1 (fun S' hS' MM Pl mo ma nc h => ?_)⟩
        · unfold F_Ps_readNumberOf
          rw [iL0, show (nI (zSta 1).length) - 1 = iI 2 by decide, s_withinI (zR_of (by omega) (by omega)) (zR_of (by omega) (by omega)) (zR_of (by omega) (by omega)), obs, if_pos (decide_eq_true (by omega)), hS.g69_1, obs, zs.1, obs, hS.ck67, obs, s_atNumber hS g2.1 (by omega) (by omega) (by omega) (by omega), obs, if_neg (fun z => d (of_decide_eq_true z)), obs]
        · obtain ⟨h1, h2, h3, h4⟩ := h
          obtain ⟨MM', e, g, z⟩ := m_opart_wn0 (n := n) (E := E) hS' hn h1.1 (by omega) h1.2.1 h1.2.2.2 hp (by omega) (by omega) (by omega) rfl (fun z => d ((vw_n (tb := tb) (a := 0) (b := lmO (wix tb l s cO 7)) g2.1.2.1 (by omega)).mpr z))
          exact ⟨3, MM', e, g, z⟩
/-- a part -/
theorem sim_part (hS : ShOK S B) (hn : 1000 ≤ n) (hrc : dp < 8 → ∀ M s st len pt wm, CS M B ord tb l cl s st len pt wm → len ≤ s → Sim n E S B ord tb l cl 5 tt 1 3 (dp + 1) s st len pt wm M (fun s' _ => opS tb l s' = -1) (rc (B + 69, iI ((dp + 1 : Nat) : Int), M))) (hd : dp ≤ 8) (hC : CS M B ord tb l cl s st len pt wm) (hl : len ≤ s) (hst : pst tb l s t0) : Sim n E S B ord tb l cl 7 tt t0 3 dp s st len pt wm M (fun _ _ => True) (F_Ps_readPart n E S rc (B + 69) (iI (dp : Int)) M) := by
  by_cases hq : kdT tb l s = 3 ∧ tb s = 91
  · exact sim_sq hS hn hC hl hd hst hq hrc
  · by_cases hp : pt < 50
    · by_cases hk : kdT tb l s = 2 ∧ 0 ≤ vT tb l s ∧ vT tb l s ≤ 1000
      · exact sim_num hS hn hC hl hst hq hp hk
      · cases ord
        · exact sim_wdL hS hn hC hl hst hq hp hk
        · exact sim_wdO hS hn hC hl hst hq hp hk
    · have hp5 := hC.2.1.2.2
      refine Or.inl ⟨M, s, p_50 hS hC hq hp, zAg.rfl', hC.1.2.2.2.1, bad_leaf hst (Nat.le_refl _) hC.1.2.1 (fun S' hS' MM Pl mo ma nc h => ?_)⟩
      obtain ⟨h1, h2, h3, h4⟩ := h
      cases ord
      · obtain ⟨MM', e, g, z⟩ := m_part_bad (n := n) (E := E) hS' hn h1.1 (by have := hC.1.2.1; have := hC.1.1.1; omega) h1.2.1 h1.2.2.1 hq (Or.inr (by omega))
        exact ⟨3, MM', e, g, z⟩
      · obtain ⟨MM', e, g, z⟩ := m_opart_bad (n := n) (E := E) hS' hn h1.1 (by have := hC.1.2.1; have := hC.1.1.1; omega) h1.2.1 h1.2.2.2 hq (Or.inr (by omega))
        exact ⟨3, MM', e, g, z⟩
end
