/-! law and orders: the model's numbers, and its readPart of orders -/
section
variable {n : Nat} {E : zE} {S : zS} {M M' : zH} {B : Nat} {Pl : List (Int × Int)} {mo ma : Nat → Int} {nc lf op : Nat} {tb : Nat → Int} {l s : Nat}
theorem m_numb1 (hS : ShOK S B) (hn : 1000 ≤ n) (h : MG M B tb l s Pl mo ma nc lf op) {lo hi : Int} (hlo : 0 ≤ lo ∧ lo ≤ 1000) (hhi : 0 ≤ hi ∧ hi ≤ 1000) (k2 : kdT tb l s = 2) (hw : lo ≤ wT tb l s ∧ wT tb l s ≤ hi) : ∃ M', F_Mo_number n E S (B + 105) (jJ lo) (jJ hi) M = some (iI (wT tb l s), M') ∧ MG M' B tb l (sT tb l (tE tb l s)) Pl mo ma nc lf op ∧ zAg (psX B) M M' := by
  obtain ⟨M1, e1, h1, hA1⟩ := m_must1 (n := n) (E := E) hS hn h
  refine ⟨M1, ?_, h1, hA1⟩
  unfold F_Mo_number
  rw [hS.ij105 (M := M), obs, hS.i105 (M := M), obs, h.1.2.2.2.2.1, h.1.2.2.2.2.2, show (2 : Int32) = iI 2 by decide, if_pos (ceqT (by omega)), obs, s_in (by omega) (by omega) (by omega) (by omega) (by omega) (by omega), obs, if_pos (decide_eq_true hw), yI]
  unfold F_Mo_number_b33
  rw [hS.ck105, obs, iL1, e1, obs]
theorem m_numb0 (hS : ShOK S B) (h : MG M B tb l s Pl mo ma nc lf op) (hk : nc + Pl.length ≤ 400) {lo hi : Int} (hlo : 0 ≤ lo ∧ lo ≤ 1000) (hhi : 0 ≤ hi ∧ hi ≤ 1000) (hw : ¬ (kdT tb l s = 2 ∧ lo ≤ wT tb l s ∧ wT tb l s ≤ hi)) : ∃ v M', F_Mo_number n E S (B + 105) (jJ lo) (jJ hi) M = some (v, M') ∧ MBad M' B s ∧ zAg (psB B) M M' := by
  have hwb := wT_b (tb := tb) (fun k hk => ⟨(h.1.1.2.2 k hk).1, (h.1.1.2.2 k hk).2.1⟩) h.1.2.1
  have hk3 := kdT_3 (tb := tb) (l := l) (s := s)
  obtain ⟨M1, e1, h1, hA1⟩ := m_must0 (n := n) (E := E) hS h hk
  refine ⟨(jJ (wT tb l s)).toInt32, M1, ?_, h1, hA1⟩
  have e32 : ∀ x5 : Int32, F_Mo_number_b32 n E S x5 (B + 105) M = some (x5, M1) := fun x5 => by
    unfold F_Mo_number_b32 F_Mo_number_b33
    rw [hS.ck105, obs, iL0, e1, obs]
  unfold F_Mo_number
  rw [hS.ij105 (M := M), obs, hS.i105 (M := M), obs, h.1.2.2.2.2.1, h.1.2.2.2.2.2, show (2 : Int32) = iI 2 by decide]
  by_cases k2 : kdT tb l s = 2
  · rw [if_pos (ceqT (by omega)), obs, s_in (by omega) (by omega) (by omega) (by omega) (by omega) (by omega), obs, if_neg (fun z => hw ⟨k2, of_decide_eq_true z⟩)]
    exact e32 _
  · rw [if_neg (ceqF (show ¬ (kdT tb l s : Int) = 2 by omega) (by omega) (by omega) (by omega) (by omega))]
    exact e32 _
theorem m_rpO (hS : ShOK S B) (hn : 1000 ≤ n) (h : MG M B tb l s Pl mo ma nc lf op) (h20 : mI M (B + 105) 20 = iI 1) (hC : ∀ i, i < 7 → mJ M (B + 121) i = jJ (cO i)) (hs : ¬ (kdT tb l s = 3 ∧ tb s = 91)) : F_Mo_readPart n E S (B + 105) M = F_Mo_readPart_b35 n E S (B + 105) (iI (if wix tb l s cO 7 = -1 then -1 else wix tb l s cO 7 + 1)) M := by
  unfold F_Mo_readPart
  rw [hS.ck105, obs, show (91 : Int32) = iI 91 by decide, m_isSign hS h.1 (by omega) (by omega), obs, if_neg (fun z => hs (of_decide_eq_true z)), hS.i105 (M := M), obs, h20, iL0, if_neg (show ¬ iI 1 = iI 0 by decide), m_orderPartAt hS hn h.1 hC, obs]
theorem m_opart_word (hS : ShOK S B) (hn : 1000 ≤ n) (h : MG M B tb l s Pl mo ma nc lf op) (h20 : mI M (B + 105) 20 = iI 1) (hC : ∀ i, i < 7 → mJ M (B + 121) i = jJ (cO i)) (hl : lf < 50) (hc : nc < 400) (hw : wix tb l s cO 7 ≠ -1) (hw4 : wix tb l s cO 7 < 4) : ∃ M', F_Mo_readPart n E S (B + 105) M = some (iI 3, M') ∧ MG M' B tb l (sT tb l (tE tb l s)) Pl (upF mo nc (wix tb l s cO 7 + 1)) (upF ma nc 0) (nc + 1) (lf + 1) op ∧ zAg (psX B) M M' := by
  have hb := wix_b (tb := tb) (l := l) (s := s) (C := cO) (k := 7)
  have k1 : kdT tb l s = 1 := by
    by_cases z : kdT tb l s = 1
    · exact z
    · exact absurd (by unfold wix; rw [if_neg z]) hw
  obtain ⟨M', e, h1, hA⟩ := m_leaf1 (n := n) (E := E) hS hn h hl hc (o := wix tb l s cO 7 + 1) (a := 0)
  refine ⟨M', ?_, h1, hA⟩
  have e20 : mI M' (B + 105) 20 = iI 1 := by rw [(hA _ _ (by unfold psX; omega)).1]; exact h20
  have nm : ¬ iI (wix tb l s cO 7 + 1) = iI (-1) := ceqF (by omega) (by omega) (by omega) (by omega) (by omega)
  rw [m_rpO hS hn h h20 hC (by omega), if_neg hw]
  unfold F_Mo_readPart_b35
  rw [hS.i105 (M := M), obs, h.1.2.2.2.2.1, show (2 : Int32) = iI 2 by decide, if_neg (ceqF (show ¬ (kdT tb l s : Int) = 2 by omega) (by omega) (by omega) (by omega) (by omega))]
  unfold F_Mo_readPart_b59 F_Mo_readPart_b60 F_Mo_readPart_b71 F_Mo_readPart_b76 F_Mo_readPart_b86 F_Mo_readPart_b99
  rw [iL1, iI_neg, if_neg nm, if_neg nm, iL0, if_pos rfl, hS.ck105, obs, e, obs, hS.i105, obs, e20, if_neg (show ¬ iI 1 = iI 0 by decide), show (5 : Int32) = iI 5 by decide, if_pos (cltT (by omega) (by omega) (by omega)), iL3]
theorem m_opart_num (hS : ShOK S B) (hn : 1000 ≤ n) (h : MG M B tb l s Pl mo ma nc lf op) (h20 : mI M (B + 105) 20 = iI 1) (hC : ∀ i, i < 7 → mJ M (B + 121) i = jJ (cO i)) (hl : lf < 50) (hc : nc < 400) (k2 : kdT tb l s = 2) (hw : wT tb l s ≤ 1000) : ∃ M', F_Mo_readPart n E S (B + 105) M = some (iI 3, M') ∧ MG M' B tb l (sT tb l (tE tb l s)) Pl (upF mo nc 0) (upF ma nc (wT tb l s)) (nc + 1) (lf + 1) op ∧ zAg (psX B) M M' := by
  have hx : wix tb l s cO 7 = -1 := by unfold wix; rw [if_neg (by omega)]
  have hb := wT_b (tb := tb) (fun k hk => ⟨(h.1.1.2.2 k hk).1, (h.1.1.2.2 k hk).2.1⟩) h.1.2.1
  obtain ⟨M', e, h1, hA⟩ := m_leaf1 (n := n) (E := E) hS hn h hl hc (o := 0) (a := wT tb l s)
  refine ⟨M', ?_, h1, hA⟩
  have e20 : mI M' (B + 105) 20 = iI 1 := by rw [(hA _ _ (by unfold psX; omega)).1]; exact h20
  rw [m_rpO hS hn h h20 hC (by omega), hx, if_pos rfl]
  unfold F_Mo_readPart_b35
  rw [hS.i105 (M := M), obs, h.1.2.2.2.2.1, show (2 : Int32) = iI 2 by decide, if_pos (ceqT (by omega)), hS.ij105 (M := M), obs, h.1.2.2.2.2.2, show (1000 : Int64) = jJ 1000 by decide, if_neg (fun z => by have := (ylt (by omega) (by omega) (by omega) (by omega)).mp z; omega)]
  unfold F_Mo_readPart_b60 F_Mo_readPart_b71 F_Mo_readPart_b76 F_Mo_readPart_b86 F_Mo_readPart_b99
  rw [iL1, iI_neg, if_pos rfl, iL0, if_neg (show ¬ iI 1 = iI 0 by decide), if_pos rfl, if_neg (show ¬ iI 1 = iI 0 by decide), hS.ij105 (M := M), obs, h.1.2.2.2.2.2, yI, hS.ck105, obs, e, obs, hS.i105, obs, e20, if_neg (show ¬ iI 1 = iI 0 by decide), if_pos (show iI (-1) < (5 : Int32) by decide), iL3]
/-- where the numbers behind turn, level, flow end -/
def lmO (w : Int) : Int := if w = 4 then 3 else if w = 5 then 2 else 7
theorem m_opart_w (hS : ShOK S B) (hn : 1000 ≤ n) (h : MG M B tb l s Pl mo ma nc lf op) (h20 : mI M (B + 105) 20 = iI 1) (hC : ∀ i, i < 7 → mJ M (B + 121) i = jJ (cO i)) (hl : lf < 50) (hc : nc < 400) (hw4 : 4 ≤ wix tb l s cO 7) : ∃ M1, MG M1 B tb l (sT tb l (tE tb l s)) Pl (upF mo nc (wix tb l s cO 7 + 1)) (upF ma nc 0) (nc + 1) (lf + 1) op ∧ zAg (psX B) M M1 ∧ F_Mo_readPart n E S (B + 105) M = F_Mo_readPart_b161 n E S (jJ (lmO (wix tb l s cO 7))) (jJ 0) (B + 105) (iI (nc : Int)) (B + 117) M1 := by
  have hb := wix_b (tb := tb) (l := l) (s := s) (C := cO) (k := 7)
  have k1 : kdT tb l s = 1 := by
    by_cases z : kdT tb l s = 1
    · exact z
    · exact absurd (show wix tb l s cO 7 = -1 by unfold wix; rw [if_neg z]) (by omega)
  obtain ⟨M', e, h1, hA⟩ := m_leaf1 (n := n) (E := E) hS hn h hl hc (o := wix tb l s cO 7 + 1) (a := 0)
  refine ⟨M', h1, hA, ?_⟩
  have e20 : mI M' (B + 105) 20 = iI 1 := by rw [(hA _ _ (by unfold psX; omega)).1]; exact h20
  have nm : ¬ iI (wix tb l s cO 7 + 1) = iI (-1) := ceqF (by omega) (by omega) (by omega) (by omega) (by omega)
  rw [m_rpO hS hn h h20 hC (by omega), if_neg (by omega)]
  unfold F_Mo_readPart_b35
  rw [hS.i105 (M := M), obs, h.1.2.2.2.2.1, show (2 : Int32) = iI 2 by decide, if_neg (ceqF (show ¬ (kdT tb l s : Int) = 2 by omega) (by omega) (by omega) (by omega) (by omega))]
  unfold F_Mo_readPart_b59 F_Mo_readPart_b60 F_Mo_readPart_b71 F_Mo_readPart_b76 F_Mo_readPart_b86 F_Mo_readPart_b99
  rw [iL1, iI_neg, if_neg nm, if_neg nm, iL0, if_pos rfl, hS.ck105, obs, e, obs, hS.i105, obs, e20, if_neg (show ¬ iI 1 = iI 0 by decide), show (5 : Int32) = iI 5 by decide, if_neg (cltF (by omega) (by omega) (by omega)), hS.i105, obs, h1.2.2, if_pos rfl, hS.i105, obs, h1.2.1.2.1.1, hS.g105_25, obs, iI_sub, show ((nc + 1 : Nat) : Int) - 1 = (nc : Int) by omega, show (6 : Int32) = iI 6 by decide]
  unfold lmO
  by_cases c4 : wix tb l s cO 7 = 4
  · rw [if_pos (ceqT (by omega)), if_pos c4]; rfl
  · rw [if_neg (ceqF (show ¬ wix tb l s cO 7 + 1 = 5 by omega) (by omega) (by omega) (by omega) (by omega)), if_neg c4]
    by_cases c5 : wix tb l s cO 7 = 5
    · rw [if_pos (ceqT (by omega)), if_pos c5]; rfl
    · rw [if_neg (ceqF (show ¬ wix tb l s cO 7 + 1 = 6 by omega) (by omega) (by omega) (by omega) (by omega)), if_neg c5]; rfl
theorem lmO_b {w : Int} : 2 ≤ lmO w ∧ lmO w ≤ 7 := by unfold lmO; split; omega; split <;> omega
theorem m_opart_wn (hS : ShOK S B) (hn : 1000 ≤ n) (h : MG M B tb l s Pl mo ma nc lf op) (h20 : mI M (B + 105) 20 = iI 1) (hC : ∀ i, i < 7 → mJ M (B + 121) i = jJ (cO i)) (hl : lf < 50) (hc : nc < 400) (hw4 : 4 ≤ wix tb l s cO 7) {s1 : Nat} (hs1 : s1 = sT tb l (tE tb l s)) (k2 : kdT tb l s1 = 2) (hv : 0 ≤ wT tb l s1 ∧ wT tb l s1 ≤ lmO (wix tb l s cO 7)) : ∃ M', F_Mo_readPart n E S (B + 105) M = some (iI 3, M') ∧ MG M' B tb l (sT tb l (tE tb l s1)) Pl (upF mo nc (wix tb l s cO 7 + 1)) (upF ma nc (wT tb l s1)) (nc + 1) (lf + 1) op ∧ zAg (psX B) M M' := by
  obtain ⟨M1, h1, hA1, e1⟩ := m_opart_w (n := n) (E := E) hS hn h h20 hC hl hc hw4
  have hlb := lmO_b (w := wix tb l s cO 7)
  rw [← hs1] at h1
  obtain ⟨M2, e2, h2, hA2⟩ := m_numb1 (n := n) (E := E) hS hn h1 (lo := 0) (hi := lmO (wix tb l s cO 7)) (by omega) (by omega) k2 hv
  have hA3 : zAg (psX B) M2 (setI M2 (B + 117) nc (iI (wT tb l s1))) := zAg.rfl'.setI (by unfold psX; omega)
  refine ⟨setI M2 (B + 117) nc (iI (wT tb l s1)), ?_, ⟨?_, ?_, ?_⟩, (hA1.trans hA2).trans hA3⟩
  · rw [e1]
    unfold F_Mo_readPart_b161
    rw [hS.ck105, obs, e2, obs, hS.w117 (by omega) (by omega), obs, Int.toNat_natCast, iL3]
  · exact h2.1.ag (X := fun b j => b = B + 117) (zAg.rfl'.setI rfl) (fun j q1 q2 => by omega) (fun j => by omega)
  · obtain ⟨⟨a1, a2, a3⟩, ⟨b1, b2, b3⟩, ⟨c1, c2⟩, ⟨d1, d2⟩⟩ := h2.2.1
    refine ⟨⟨by rw [mI_a (by omega)]; exact a1, a2, a3.ag _ (fun k _ => ⟨by rw [mI_a (by omega)], by rw [mI_a (by omega)]⟩)⟩, ⟨by rw [mI_a (by omega)]; exact b1, b2, fun k hk => ?_⟩, ⟨by rw [mI_a (by omega)]; exact c1, c2⟩, ⟨by rw [mI_a (by omega)]; exact d1, d2⟩⟩
    have b3' := b3 k hk
    rw [mI_a (by omega), mI_ite]
    unfold upF at b3' ⊢
    by_cases q : k = nc
    · rw [if_pos q] at b3' ⊢; rw [if_pos ⟨rfl, q⟩, if_pos q]; exact ⟨b3'.1, rfl⟩
    · rw [if_neg q] at b3' ⊢; rw [if_neg (fun z => q z.2), if_neg q]; rw [if_neg q] at b3'; exact b3'
  · rw [mI_a (by omega)]; exact h2.2.2
theorem MX.s117 (h : MX M B Pl mo ma nc lf op) {i : Nat} {x : Int} : MX (setI M (B + 117) i (iI x)) B Pl mo (upF ma i x) nc lf op := by
  obtain ⟨⟨a1, a2, a3⟩, ⟨b1, b2, b3⟩, ⟨c1, c2⟩, ⟨d1, d2⟩⟩ := h
  refine ⟨⟨by rw [mI_a (by omega)]; exact a1, a2, a3.ag _ (fun k _ => ⟨by rw [mI_a (by omega)], by rw [mI_a (by omega)]⟩)⟩, ⟨by rw [mI_a (by omega)]; exact b1, b2, fun k hk => ?_⟩, ⟨by rw [mI_a (by omega)]; exact c1, c2⟩, ⟨by rw [mI_a (by omega)]; exact d1, d2⟩⟩
  have b3' := b3 k hk
  rw [mI_a (by omega), mI_ite]
  unfold upF
  by_cases q : k = i
  · rw [if_pos ⟨rfl, q⟩, if_pos q]; exact ⟨b3'.1, rfl⟩
  · rw [if_neg (fun z => q z.2), if_neg q]; exact b3'
theorem m_opart_wn0 (hS : ShOK S B) (hn : 1000 ≤ n) (h : MG M B tb l s Pl mo ma nc lf op) (hk : nc + Pl.length ≤ 400) (h20 : mI M (B + 105) 20 = iI 1) (hC : ∀ i, i < 7 → mJ M (B + 121) i = jJ (cO i)) (hl : lf < 50) (hc : nc < 400) (hk1 : nc + 1 + Pl.length ≤ 400) (hw4 : 4 ≤ wix tb l s cO 7) {s1 : Nat} (hs1 : s1 = sT tb l (tE tb l s)) (hv : ¬ (kdT tb l s1 = 2 ∧ 0 ≤ wT tb l s1 ∧ wT tb l s1 ≤ lmO (wix tb l s cO 7))) : ∃ M', F_Mo_readPart n E S (B + 105) M = some (iI 3, M') ∧ MBad M' B s1 ∧ zAg (psB B) M M' := by
  obtain ⟨M1, h1, hA1, e1⟩ := m_opart_w (n := n) (E := E) hS hn h h20 hC hl hc hw4
  have hlb := lmO_b (w := wix tb l s cO 7)
  rw [← hs1] at h1
  obtain ⟨v, M2, e2, h2, hA2⟩ := m_numb0 (n := n) (E := E) hS h1 hk1 (lo := 0) (hi := lmO (wix tb l s cO 7)) (by omega) (by omega) hv
  have hA3 : zAg (psB B) M2 (setI M2 (B + 117) nc v) := zAg.rfl'.setI (by unfold psB; omega)
  obtain ⟨b1, b2, Pl3, mo3, ma3, nc3, lf3, op3, x3, k3⟩ := h2
  obtain ⟨v', hv', ev⟩ := iI_of v
  refine ⟨setI M2 (B + 117) nc v, ?_, ⟨by rw [mI_a (by omega)]; exact b1, by rw [mI_a (by omega)]; exact b2, Pl3, mo3, upF ma3 nc v', nc3, lf3, op3, by rw [ev]; exact x3.s117, k3⟩, ((toB hA1).trans hA2).trans hA3⟩
  rw [e1]
  unfold F_Mo_readPart_b161
  rw [hS.ck105, obs, e2, obs, hS.w117 (by omega) (by omega), obs, Int.toNat_natCast, iL3]
theorem m_opart_bad (hS : ShOK S B) (hn : 1000 ≤ n) (h : MG M B tb l s Pl mo ma nc lf op) (hk : nc + Pl.length ≤ 400) (h20 : mI M (B + 105) 20 = iI 1) (hC : ∀ i, i < 7 → mJ M (B + 121) i = jJ (cO i)) (hs : ¬ (kdT tb l s = 3 ∧ tb s = 91)) (hbad : (wix tb l s cO 7 = -1 ∧ ¬ (kdT tb l s = 2 ∧ wT tb l s ≤ 1000)) ∨ lf = 50) : ∃ M', F_Mo_readPart n E S (B + 105) M = some (iI 3, M') ∧ MBad M' B s ∧ zAg (psB B) M M' := by
  have hb := wix_b (tb := tb) (l := l) (s := s) (C := cO) (k := 7)
  have hwb := wT_b (tb := tb) (fun k hk => ⟨(h.1.1.2.2 k hk).1, (h.1.1.2.2 k hk).2.1⟩) h.1.2.1
  have hk3 := kdT_3 (tb := tb) (l := l) (s := s)
  have fin : ∀ (i : Int) (o a : Int32), (i = 0 ∨ (i = 1 ∧ lf = 50)) → ∃ M', (∀ x1 : Int32, F_Mo_readPart_b99 n E S (B + 105) x1 a o (iI i) (B + 105) M = some (iI 3, M')) ∧ MBad M' B s ∧ zAg (psB B) M M' := fun i o a hi => by
    obtain ⟨M', e, h1, hA⟩ := m_leaf0 (n := n) (E := E) hS h hk (o := o) (a := a) hi
    have e20 : mI M' (B + 105) 20 = iI 1 := by rw [(hA _ _ (by unfold psB; omega)).1]; exact h20
    refine ⟨M', fun x1 => ?_, h1, hA⟩
    unfold F_Mo_readPart_b99
    rw [hS.ck105, obs, e, obs, hS.i105, obs, e20, iL0, if_neg (show ¬ iI 1 = iI 0 by decide), hS.i105, obs, h1.1, if_neg (show ¬ iI 1 = iI 0 by decide), iL3]
    split <;> rfl
  rw [m_rpO hS hn h h20 hC hs]
  unfold F_Mo_readPart_b35
  rw [hS.i105 (M := M), obs, h.1.2.2.2.2.1, show (2 : Int32) = iI 2 by decide]
  by_cases c : wix tb l s cO 7 = -1
  · rw [if_pos c]
    by_cases k2 : kdT tb l s = 2
    · rw [if_pos (ceqT (by omega)), hS.ij105 (M := M), obs, h.1.2.2.2.2.2, show (1000 : Int64) = jJ 1000 by decide]
      by_cases d : wT tb l s ≤ 1000
      · obtain ⟨M', e, h1, hA⟩ := fin 1 (iI 0) (iI (wT tb l s)) (by
          rcases hbad with q | q
          · exact absurd ⟨k2, d⟩ q.2
          · exact Or.inr ⟨rfl, q⟩)
        refine ⟨M', ?_, h1, hA⟩
        rw [if_neg (fun z => by have := (ylt (by omega) (by omega) (by omega) (by omega)).mp z; omega)]
        unfold F_Mo_readPart_b60 F_Mo_readPart_b71 F_Mo_readPart_b76 F_Mo_readPart_b86
        rw [iL1, iI_neg, if_pos rfl, iL0, if_neg (show ¬ iI 1 = iI 0 by decide), if_pos rfl, if_neg (show ¬ iI 1 = iI 0 by decide), hS.ij105 (M := M), obs, h.1.2.2.2.2.2, yI]
        exact e _
      · obtain ⟨M', e, h1, hA⟩ := fin 0 (iI 0) (iI 0) (Or.inl rfl)
        refine ⟨M', ?_, h1, hA⟩
        rw [if_pos ((ylt (by omega) (by omega) (by omega) (by omega)).mpr (by omega))]
        unfold F_Mo_readPart_b59 F_Mo_readPart_b60 F_Mo_readPart_b76 F_Mo_readPart_b86
        rw [iL1, iI_neg, if_pos rfl, iL0, if_pos rfl, if_pos rfl, if_pos rfl]
        exact e _
    · obtain ⟨M', e, h1, hA⟩ := fin 0 (iI 0) (iI 0) (Or.inl rfl)
      refine ⟨M', ?_, h1, hA⟩
      rw [if_neg (ceqF (show ¬ (kdT tb l s : Int) = 2 by omega) (by omega) (by omega) (by omega) (by omega))]
      unfold F_Mo_readPart_b59 F_Mo_readPart_b60 F_Mo_readPart_b76 F_Mo_readPart_b86
      rw [iL1, iI_neg, if_pos rfl, iL0, if_pos rfl, if_pos rfl, if_pos rfl]
      exact e _
  · have k1 : kdT tb l s = 1 := by
      by_cases z : kdT tb l s = 1
      · exact z
      · exact absurd (by unfold wix; rw [if_neg z]) c
    have nm : ¬ iI (wix tb l s cO 7 + 1) = iI (-1) := ceqF (by omega) (by omega) (by omega) (by omega) (by omega)
    obtain ⟨M', e, h1, hA⟩ := fin 1 (iI (wix tb l s cO 7 + 1)) (iI 0) (by
      rcases hbad with q | q
      · exact absurd q.1 c
      · exact Or.inr ⟨rfl, q⟩)
    refine ⟨M', ?_, h1, hA⟩
    rw [if_neg c, if_neg (ceqF (show ¬ (kdT tb l s : Int) = 2 by omega) (by omega) (by omega) (by omega) (by omega))]
    unfold F_Mo_readPart_b59 F_Mo_readPart_b60 F_Mo_readPart_b71 F_Mo_readPart_b76 F_Mo_readPart_b86
    rw [iL1, iI_neg, if_neg nm, if_neg nm, iL0, if_pos rfl]
    exact e _
end
