/-! law: a clause, both sides -/
section
variable {n : Nat} {E : zE} {S : zS} {M : zH} {B : Nat} {tb : Nat → Int} {l cl s : Nat} {st : Nat → Int} {len pt : Nat}
def lmX (B q cl : Nat) : Nat → Nat → Prop := fun b j => psX B b j ∨ (b = B + q ∧ 8 * cl + 4 ≤ j ∧ j < 8 * cl + 7)
theorem lx_lb {M' : zH} {q : Nat} (h : zAg (lwX B q cl) M M') : zAg (lwB B q cl) M M' := h.mono (fun b j z => by unfold lwX psX at z; unfold lwB psB; omega)
theorem pb_lb {M' : zH} {q : Nat} (h : zAg (psB B) M M') : zAg (lwB B q cl) M M' := h.mono (fun b j z => Or.inl z)
theorem tb_lb {M' : zH} {q : Nat} (h : zAg (tlB B q cl) M M') : zAg (lwB B q cl) M M' := h.mono (fun b j z => by unfold tlB psB at z; unfold lwB psB; omega)
theorem cx_lb {M' : zH} {q : Nat} (h : zAg (fun b j => b = B + q ∧ (j = 8 * cl + 4 ∨ j = 8 * cl + 5)) M M') : zAg (lwB B q cl) M M' := h.mono (fun b j z => by unfold lwB psB; omega)
theorem ps_lm {M' : zH} {q : Nat} (h : zAg (psX B) M M') : zAg (lmX B q cl) M M' := h.mono (fun b j z => Or.inl z)
theorem cx_lm {M' : zH} {q : Nat} (h : zAg (fun b j => b = B + q ∧ (j = 8 * cl + 4 ∨ j = 8 * cl + 5)) M M') : zAg (lmX B q cl) M M' := h.mono (fun b j z => by unfold lmX psX; omega)
theorem tl_lm {M' : zH} {q : Nat} (h : zAg (tlX B q cl) M M') : zAg (lmX B q cl) M M' := h.mono (fun b j z => by unfold tlX psX at z; unfold lmX psX; omega)
theorem lm_lx {M' : zH} {q : Nat} (h : zAg (lmX B q cl) M M') : zAg (lwX B q cl) M M' := h.mono (fun b j z => by unfold lmX psX at z; unfold lwX psX; omega)
/-- behind its head and sum -/
theorem st_law (hS : ShOK S B) (hn : 1000 ≤ n) (hl4 : l ≤ 400) {kd : Int} (hk : wix tb l s cH 4 = kd) (hk0 : kd ≠ -1) (hsl : s ≤ l) (hs1 : s < nx tb l s) (hc : cl < 12) {M2 : zH} (g2 : CS M2 B false tb l cl (nx tb l s) st len pt 0) (k2 : KT M2 B cl kd 1 (fun _ => len)) (hl : len ≤ s) :
  (∃ (M4 : zH) (s' : Nat), F_Ps_readLaw n E S (B + 69) (iI kd) M2 = some (false, M4) ∧ zAg (ctX B cl) M2 M4 ∧ mI M4 (B + 67) 3 = iI (s' : Int) ∧ s' ≤ l ∧ ∀ (S' : zS), ShOK S' B → ∀ MM mo ma nc, MP MM B false tb l cl s mo ma nc pt → ∃ MM', F_Mo_readLaw n E S' (B + 105) MM = some MM' ∧ MBd MM' B s' ∧ zAg (lwB B 115 cl) MM MM') ∨
  (∃ (M4 : zH) (s3 : Nat) (st3 : Nat → Int) (len3 pt3 wm3 : Nat) (f : Fn), F_Ps_readLaw n E S (B + 69) (iI kd) M2 = some (true, M4) ∧ CS M4 B false tb l cl s3 st3 len3 pt3 wm3 ∧ KT M4 B cl kd 1 (fun i => if i < 1 then len else len3) ∧ zAg (ctX B cl) M2 M4 ∧ (∀ p, p < len → st3 p = st p) ∧ (kd ≠ 3 → sgC st3 9 len len3 50 f ∧ dpw wm3 f) ∧ (len ≤ len3 ∧ len3 + s ≤ len + s3 ∧ s < s3) ∧ ∀ (S' : zS), ShOK S' B → ∀ MM mo ma nc, MP MM B false tb l cl s mo ma nc pt → ∃ MM1 MM2 mo2 ma2 nc2, F_Mo_readLaw n E S' (B + 105) MM = F_Mo_readLaw_b135 n E S' (B + 105) (iI ((8 * cl : Nat) : Int)) MM2 ∧ (mI MM1 (B + 105) 21 = iI ((cl + 1 : Nat) : Int) ∧ NC MM1 B 115 cl 0 kd ∧ NC MM1 B 115 cl 3 (nc : Nat) ∧ zAg (lwX B 115 cl) MM MM1) ∧ MK MM2 B false tb l s3 mo2 ma2 nc2 pt3 ∧ zAg (psX B) MM1 MM2 ∧ (∀ p, p < nc → mo2 p = mo p ∧ ma2 p = ma p) ∧ (∀ p, nc ≤ p → p < nc2 → 0 ≤ mo2 p ∧ mo2 p ≤ 30 ∧ 0 ≤ ma2 p ∧ ma2 p ≤ 1000) ∧ (nc ≤ nc2 ∧ nc2 + s ≤ nc + s3) ∧ (kd ≠ 3 → sgM false mo2 ma2 (fun _ => True) nc nc2 50 f)) := by
  have wb := wix_b (tb := tb) (l := l) (s := s) (C := cH) (k := 4)
  have b15 : ∀ (M3 M4 : zH), F_Te_mark n E S (B + 70) (iI ((1 : Nat) : Int)) M3 = some M4 → F_Ps_readLaw_b15 n E S (B + 69) M3 = some (true, M4) := fun M3 M4 e => by
    unfold F_Ps_readLaw_b15
    rw [hS.g69_0, obs, hS.ck70, obs, show (1 : Int32) = iI ((1 : Nat) : Int) by decide, e, obs]
  by_cases c3 : kd = 3
  · obtain ⟨M4, e4, g4, k4, hA4⟩ := g2.mark (n := n) (E := E) hS hn k2 (p := 1) (by omega)
    refine Or.inr ⟨M4, nx tb l s, st, len, pt, 0, fun _ => none, ?_, g4, k4, hA4, fun _ _ => rfl, fun q => absurd c3 q, ⟨by omega, by omega, by omega⟩, fun S' hS' MM mo ma nc h => ?_⟩
    · unfold F_Ps_readLaw
      rw [c3, if_pos (show iI 3 = 3 by decide)]
      exact b15 M2 M4 e4
    · obtain ⟨h1, ⟨h2, h3⟩, h4, h5, h6⟩ := h
      obtain ⟨MM1, e1, a1, a2, a3, a4, z1⟩ := m_head (n := n) (E := E) hS' hn h1 h2 h4 hc hk hk0
      rw [if_pos c3] at e1
      exact ⟨MM1, MM1, mo, ma, nc, e1, ⟨a2, a3, a4, z1⟩, a1, zAg.rfl', fun p _ => ⟨rfl, rfl⟩, fun p p1 p2 => by omega, ⟨by omega, by omega⟩, fun q => absurd c3 q⟩
  · have red : F_Ps_readLaw n E S (B + 69) (iI kd) M2 = (F_Ps_readSum_D n E S 10 (B + 69, iI ((0 : Nat) : Int), M2)).bind fun q_6 => if q_6.1 = true then F_Ps_readLaw_b15 n E S (B + 69) q_6.2 else some (false, q_6.2) := by
      unfold F_Ps_readLaw
      rw [if_neg (show ¬ iI kd = 3 from ceqF (y := 3) c3 (by omega) (by omega) (by omega) (by omega)), hS.ck69, obs]
      rfl
    rw [red]
    rcases sim_sumD (tt := 0) hS hn 10 0 (by omega) (by omega) 1 M2 (nx tb l s) st len pt 0 g2 (by omega) (Or.inl rfl) with ⟨M3, s3, e3, hA3, p3, b3⟩ | ⟨M3, s3, st3, len3, pt3, wm3, f, e3, hA3, g3, oc, om, ec⟩
    · refine Or.inl ⟨M3, s3, by rw [e3, obs, if_neg Bool.false_ne_true], clX_ct hA3, p3, b3.2.1, fun S' hS' MM mo ma nc h => ?_⟩
      obtain ⟨h1, ⟨h2, h3⟩, h4, h5, h6⟩ := h
      obtain ⟨MM1, e1, a1, a2, a3, a4, z1⟩ := m_head (n := n) (E := E) hS' hn h1 h2 h4 hc hk hk0
      rw [if_neg c3] at e1
      obtain ⟨MM2, e2, m2, z2⟩ := x_bad (n := n) (E := E) hS' hn hl4 (Or.inl ⟨rfl, rfl⟩) b3 a1 (by omega)
      obtain ⟨MM3, f3, m3, z3⟩ := m_135bad (n := n) (E := E) hS' hc m2
      rw [e2, obs, f3] at e1
      exact ⟨MM3, e1, m3, ((lx_lb z1).trans (pb_lb z2)).trans (lx_lb z3)⟩
    · obtain ⟨c1, c2, c3', c4, c5, c6, c7⟩ := oc
      have pt5 := g3.2.1.2.2
      have i1 := c2.1
      obtain ⟨M4, e4, g4, k4, hA4⟩ := g3.mark (n := n) (E := E) hS hn (k2.ag hA3) (p := 1) (by omega)
      refine Or.inr ⟨M4, s3, st3, len3, pt3, wm3, f, ?_, g4, k4, (clX_ct hA3).trans hA4, c1, fun _ => ⟨c2.up (by omega), c3'⟩, ⟨by omega, by omega, by omega⟩, fun S' hS' MM mo ma nc h => ?_⟩
      · rw [e3, obs, if_pos rfl]
        exact b15 M3 M4 e4
      · obtain ⟨h1, ⟨h2, h3⟩, h4, h5, h6⟩ := h
        obtain ⟨MM1, e1, a1, a2, a3, a4, z1⟩ := m_head (n := n) (E := E) hS' hn h1 h2 h4 hc hk hk0
        rw [if_neg c3] at e1
        obtain ⟨MM2, mo2, ma2, nc2, e2, m2, z2, n2, cd⟩ := xs_ok (n := n) (E := E) hS' hn hl4 om ec g3.1.2.1 a1 (by omega)
        rw [e2, obs] at e1
        have := cd.le
        exact ⟨MM1, MM2, mo2, ma2, nc2, e1, ⟨a2, a3, a4, z1⟩, m2, z2, cd.1, cd.2.2, ⟨cd.le, by omega⟩, fun _ => cd.2.1.up (by omega)⟩
theorem cl_law (hS : ShOK S B) (hn : 1000 ≤ n) (hB : CB M B false tb l cl s st len pt) (hc : cl < 12) (hl : len ≤ s) : ClSim n E S B false tb l (fun S' MM => F_Mo_readLaw n E S' (B + 105) MM) M cl s st len pt := by
  have wb := wix_b (tb := tb) (l := l) (s := s) (C := cH) (k := 4)
  have hsl := hB.1.2.1
  have hl4 := hB.1.1.1
  have red : F_Ps_readClause n E S (B + 69) M = F_Ps_readClause_b18 n E S (B + 69) 1 (B + 67) M := by
    unfold F_Ps_readClause
    rw [hS.g69_1, obs, hS.i69, obs, hB.2.2.1, if_pos (show bI false = 0 from rfl)]
  by_cases c : wix tb l s cH 4 = -1
  · refine Or.inl ⟨M, s, ?_, zAg.rfl', hB.1.2.2.2.1, hsl, fun S' hS' MM mo ma nc h => ?_⟩
    · rw [red]
      unfold F_Ps_readClause_b18
      rw [hS.ck67, obs, (s_words hS hn hB.1).2.2.1, obs, c, if_pos (show iI (-1) = -1 by decide)]
    · obtain ⟨MM1, e1, b1, z1⟩ := m_head0 (n := n) (E := E) hS' hn h.1 h.2.1.1 h.2.2.1 (by omega) (Or.inl c)
      exact ⟨MM1, e1, b1, z1.mono (fun b j q => Or.inl q)⟩
  · have k1 : kdT tb l s = 1 := by
      by_cases z : kdT tb l s = 1
      · exact z
      · exact absurd (by unfold wix; rw [if_neg z]) c
    have sb := nx_b (tb := tb) hsl
    have sb2 := sb.2.2 (by omega)
    obtain ⟨M1, e1, g1, k1', hA1⟩ := s_open (n := n) (E := E) (kd := wix tb l s cH 4) hS hn hB hc
    obtain ⟨M2, e2, g2, hA2⟩ := g1.adv (n := n) (E := E) hS hn
    have k2 := k1'.ag hA2
    have red2 : F_Ps_readClause n E S (B + 69) M = (F_Ps_readLaw n E S (B + 69) (iI (wix tb l s cH 4)) M2).bind fun q_22 => if q_22.1 = true then F_Ps_readClause_b72 n E S (B + 69) q_22.2 else some (false, q_22.2) := by
      rw [red]
      unfold F_Ps_readClause_b18
      rw [hS.ck67, obs, (s_words hS hn hB.1).2.2.1, obs, if_neg (show ¬ iI (wix tb l s cH 4) = -1 from ceqF (y := -1) c (by omega) (by omega) (by omega) (by omega)), hS.g69_0, obs, hS.ck70, obs, e1, obs, hS.g69_1, obs, hS.ck67, obs, e2, obs, hS.i69, obs, g2.2.2.1, if_pos (show bI false = 0 from rfl)]
    unfold ClSim
    rw [red2]
    rcases st_law (E := E) hS hn hl4 rfl c hsl sb2 hc g2 k2 hl with ⟨M4, s4, e4, hA4, p4, l4, m4⟩ | ⟨M4, s3, st3, len3, pt3, wm3, f, e4, g4, k4, hA4, ag, sm, ⟨n1, n2, n3⟩, m4⟩
    · exact Or.inl ⟨M4, s4, by rw [e4, obs, if_neg Bool.false_ne_true], (hA1.trans (clX_ct hA2)).trans hA4, p4, l4, m4⟩
    · rw [e4, obs, if_pos rfl]
      have mdl : ∀ (MM1 MM2 MM3 MM5 : zH) (nc2 : Nat), zAg (psX B) MM1 MM2 → zAg (fun b j => b = B + 115 ∧ (j = 8 * cl + 4 ∨ j = 8 * cl + 5)) MM2 MM3 → zAg (tlX B 115 cl) MM3 MM5 → zAg (lmX B 115 cl) MM1 MM5 := fun MM1 MM2 MM3 MM5 nc2 z1 z2 z3 => ((ps_lm z1).trans (cx_lm z2)).trans (tl_lm z3)
      rcases sim_tail (E := E) hS hn (q := 115) (Or.inl rfl) hc (G := fun S' MM => F_Mo_readLaw_b135 n E S' (B + 105) (iI ((8 * cl : Nat) : Int)) MM) (H := fun S' MM => F_Mo_readLaw_b185 n E S' (B + 105) (iI ((8 * cl : Nat) : Int)) MM) (R := fun MM MM1 nc => NC MM1 B 115 cl 4 (nc : Nat) ∧ NC MM1 B 115 cl 5 (nc : Nat) ∧ zAg (fun b j => b = B + 115 ∧ (j = 8 * cl + 4 ∨ j = 8 * cl + 5)) MM MM1) (fun S' hS' MM mo ma nc h => by
          obtain ⟨MM1, a1, a2, a3, a4, a5⟩ := m_135 (n := n) (E := E) hS' hc h
          exact ⟨MM1, a1, ⟨a2, a3, a4⟩, a5⟩) (fun S' hS' MM => m_185 hS' hc) g4 k4 (by omega) with ⟨M5, s5, e5, hA5, p5, l5, m5⟩ | ⟨M5, s5, st5, len5, pt5, wm5, tg, e5, hA5, g5, k5, ⟨w1, w2, w3⟩, ag5, tc, ⟨n4, n5⟩, m5⟩
      · refine Or.inl ⟨M5, s5, e5, ((hA1.trans (clX_ct hA2)).trans hA4).trans hA5, p5, l5, fun S' hS' MM mo ma nc h => ?_⟩
        obtain ⟨MM1, MM2, mo2, ma2, nc2, f1, ⟨a1, a2, a3, z1⟩, m2, z2, kp, bd, ⟨nn1, nn2⟩, sg⟩ := m4 S' hS' MM mo ma nc h
        have hnc := h.2.2.2.1
        obtain ⟨MM3, MM4, ⟨r1, r2, r3⟩, f2, m3, z3⟩ := m5 S' hS' MM2 mo2 ma2 nc2 m2 (by omega)
        exact ⟨MM4, f1.trans f2, m3, (((lx_lb z1).trans (pb_lb (toB z2))).trans (cx_lb r3)).trans (tb_lb z3)⟩
      · have i5 : len3 ≤ len5 := by
          cases tg with
          | none => have : len3 = len5 := tc; omega
          | some g => have := tc.1; omega
        refine Or.inr ⟨M5, s5, st5, len5, pt5, (wix tb l s cH 4, 1, f, fun _ => none, tg), e5, ((hA1.trans (clX_ct hA2)).trans hA4).trans hA5, g5, ⟨_, wm5, k5, ⟨w1, w2⟩, ⟨by show 0 ≤ wix tb l s cH 4; omega, by show wix tb l s cH 4 ≤ 3; omega, by show (1 : Int) ≤ 1; decide, by show (1 : Int) ≤ 20; decide⟩, fun q => ⟨⟨(sm q).1.cg (fun p p1 p2 => ag5 p p2), (sm q).2.up w3⟩, fun o => absurd o (by decide)⟩, tc, by show len ≤ len3; omega, by show len3 ≤ len3; omega, by show len3 ≤ len5; omega, by show len5 ≤ len5; omega⟩, fun p hp => (ag5 p (by omega)).trans (ag p hp), ⟨by omega, by omega, by omega⟩, fun S' hS' MM mo ma nc h => ?_⟩
        obtain ⟨MM1, MM2, mo2, ma2, nc2, f1, ⟨a1, a2, a3, z1⟩, m2, z2, kp, bd, ⟨nn1, nn2⟩, sg⟩ := m4 S' hS' MM mo ma nc h
        have hnc := h.2.2.2.1
        obtain ⟨MM3, MM4, mo4, ma4, nc4, ⟨r1, r2, r3⟩, f2, m3, z3, c6, kp2, bd2, nn3, tm⟩ := m5 S' hS' MM2 mo2 ma2 nc2 m2 (by omega)
        have z14 := mdl MM1 MM2 MM3 MM4 nc2 z2 r3 z3
        have nn4 : nc2 ≤ nc4 := by
          cases tg with
          | none => have : nc2 = nc4 := tm; omega
          | some g => have := tm.1; omega
        have zall : zAg (lwX B 115 cl) MM MM4 := z1.trans (lm_lx z14)
        refine ⟨MM4, mo4, ma4, nc4, f1.trans f2, ⟨m3, ⟨fun i hi => ?_, fun i hi => ?_⟩, ?_, by omega, ?_⟩, zall, ⟨fun p => if p = 3 then nc else if p = 6 then nc4 else nc2, ?_, fun p o p1 p2 => ?_, fun o => absurd o (by decide), fun q => ⟨fun _ => (sg q).cg (fun p p1 p2 => kp2 p p2), fun o => absurd o (by decide)⟩, fun o => absurd o (by decide), tm⟩, fun p hp => ⟨(kp2 p (by omega)).1.trans (kp p hp).1, (kp2 p (by omega)).2.trans (kp p hp).2⟩, fun p p1 p2 => ?_, by omega⟩
        · rw [(zall _ _ (by unfold lwX psX; omega)).2.1]; exact h.2.1.1 i hi
        · rw [(zall _ _ (by unfold lwX psX; omega)).2.1]; exact h.2.1.2 i hi
        · rw [(z14 _ _ (by unfold lmX psX; omega)).1]; exact a1
        · rw [(zall _ _ (by unfold lwX psX; omega)).1]; exact h.2.2.2.2
        · show mI MM4 (B + 115) (8 * cl + 0) = _
          rw [(z14 _ _ (by unfold lmX psX; omega)).1]; exact a2
        · have p3 : 3 ≤ p := by
            rcases o with o | o
            · exact absurd o (by decide)
            · exact o
          show mI MM4 (B + 115) (8 * cl + p) = iI ((if p = 3 then nc else if p = 6 then nc4 else nc2 : Nat) : Int) ∧ (if p = 3 then nc else if p = 6 then nc4 else nc2) ≤ nc4
          by_cases q3 : p = 3
          · rw [if_pos q3, q3, (z14 _ _ (by unfold lmX psX; omega)).1]
            exact ⟨a3, by omega⟩
          · rw [if_neg q3]
            by_cases q6 : p = 6
            · rw [if_pos q6, q6]; exact ⟨c6, Nat.le_refl _⟩
            · rw [if_neg q6, (z3 _ _ (by unfold tlX psX; omega)).1]
              refine ⟨?_, nn4⟩
              by_cases q4 : p = 4
              · rw [q4]; exact r1
              · rw [show p = 5 by omega]; exact r2
        · by_cases q : p < nc2
          · rw [(kp2 p q).1, (kp2 p q).2]; exact bd p p1 q
          · exact bd2 p (by omega) p2
end
