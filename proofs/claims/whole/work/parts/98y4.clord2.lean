/-! orders: a clause, both sides (2) -/
section
variable {n : Nat} {E : zE} {S : zS} {M : zH} {B : Nat} {tb : Nat → Int} {l cl s : Nat} {st : Nat → Int} {len pt : Nat}
theorem ob_lb {M' : zH} (h : zAg (ocB B cl) M M') : zAg (lwB B 134 cl) M M' := h.mono (fun b j z => by unfold ocB psB at z; unfold lwB psB; omega)
theorem oc_lx {M' : zH} {i k : Nat} (h : zAg (ocX B cl i k) M M') (hk : k ≤ 8) : zAg (lwX B 134 cl) M M' := h.mono (fun b j z => by unfold ocX psX at z; unfold lwX psX; omega)
theorem st_ord (hS : ShOK S B) (hn : 1000 ≤ n) {kd : Int} (hk : wix tb l s cA 4 = kd) (hk0 : kd ≠ -1) (hs1 : s < nx tb l s) (hc : cl < 12) {M2 : zH} (g2 : CS M2 B true tb l cl (nx tb l s) st len pt 0) (k2 : KT M2 B cl kd 1 (fun _ => len)) (hl : len ≤ s) :
  (∃ (M4 : zH) (s' : Nat), F_Ps_readOrder n E S (B + 69) (iI kd) M2 = some (false, M4) ∧ zAg (ctX B cl) M2 M4 ∧ mI M4 (B + 67) 3 = iI (s' : Int) ∧ s' ≤ l ∧ ∀ (S' : zS), ShOK S' B → ∀ MM mo ma nc, MP MM B true tb l cl s mo ma nc pt → ∃ MM', F_Mo_readOrder n E S' (B + 105) MM = some MM' ∧ MBd MM' B s' ∧ zAg (lwB B 134 cl) MM MM') ∨
  (∃ (M3 : zH) (s3 : Nat) (st3 : Nat → Int) (len1 len2 pt3 wm3 : Nat) (f1 f2 : Fn), F_Ps_readOrder n E S (B + 69) (iI kd) M2 = F_Ps_readOrder_b26 n E S (B + 69) M3 ∧ CS M3 B true tb l cl s3 st3 len2 pt3 wm3 ∧ KT M3 B cl kd 1 (fun i => if i < 2 then (if i < 1 then len else len1) else len2) ∧ zAg (ctX B cl) M2 M3 ∧ (∀ p, p < len → st3 p = st p) ∧ (kd ≠ 3 → sgC st3 19 len len1 50 f1 ∧ dpw wm3 f1 ∧ sgC st3 19 len1 len2 50 f2 ∧ dpw wm3 f2) ∧ (len ≤ len1 ∧ len1 ≤ len2 ∧ len2 + s ≤ len + s3 ∧ s < s3) ∧ ∀ (S' : zS), ShOK S' B → ∀ MM mo ma nc, MP MM B true tb l cl s mo ma nc pt → ∃ (MM3 : zH) (mo3 ma3 : Nat → Int) (nc3 a1 a2 a3 a4 : Nat), F_Mo_readOrder n E S' (B + 105) MM = F_Mo_readOrder_b161 n E S' (B + 105) (iI ((8 * cl : Nat) : Int)) MM3 ∧ mI MM3 (B + 105) 21 = iI ((cl + 1 : Nat) : Int) ∧ (NC MM3 B 134 cl 0 kd ∧ NC MM3 B 134 cl 1 (a1 : Nat) ∧ NC MM3 B 134 cl 2 (a2 : Nat) ∧ NC MM3 B 134 cl 3 (a3 : Nat) ∧ NC MM3 B 134 cl 4 (a4 : Nat)) ∧ (a1 ≤ nc3 ∧ a2 ≤ nc3 ∧ a3 ≤ nc3 ∧ a4 ≤ nc3) ∧ zAg (lwX B 134 cl) MM MM3 ∧ MK MM3 B true tb l s3 mo3 ma3 nc3 pt3 ∧ (∀ p, p < nc → mo3 p = mo p ∧ ma3 p = ma p) ∧ (∀ p, nc ≤ p → p < nc3 → 0 ≤ mo3 p ∧ mo3 p ≤ 30 ∧ 0 ≤ ma3 p ∧ ma3 p ≤ 1000) ∧ (nc ≤ nc3 ∧ nc3 + s ≤ nc + s3) ∧ (kd ≠ 3 → sgM true mo3 ma3 (fun _ => True) a1 a2 50 f1 ∧ sgM true mo3 ma3 (fun _ => True) a3 a4 50 f2) ∧ (kd = 3 → a1 = a2 ∧ a3 = a4)) := by
  have wb := wix_b (tb := tb) (l := l) (s := s) (C := cA) (k := 4)
  by_cases c3 : kd = 3
  · refine Or.inr ⟨M2, nx tb l s, st, len, len, pt, 0, fun _ => none, fun _ => none, ?_, g2, ⟨k2.1, k2.2.1, fun i hi => ?_⟩, zAg.rfl', fun _ _ => rfl, fun q => absurd c3 q, ⟨by omega, by omega, by omega, by omega⟩, fun S' hS' MM mo ma nc h => ?_⟩
    · unfold F_Ps_readOrder
      rw [c3, if_pos (show iI 3 = 3 by decide)]
    · have := k2.2.2 i hi
      dsimp only at this ⊢
      by_cases q : i < 2
      · rw [if_pos q]
        by_cases q1 : i < 1
        · rw [if_pos q1]; exact this
        · rw [if_neg q1]; exact this
      · rw [if_neg q]; exact this
    · obtain ⟨h1, ⟨h2, h3⟩, h4, h5, h6⟩ := h
      obtain ⟨MM1, e1, a1, a2, a3, a4, z1⟩ := a_head (n := n) (E := E) hS' hn h1 h3 h4 hc hk hk0
      rw [if_pos c3] at e1
      exact ⟨MM1, mo, ma, nc, 0, 0, 0, 0, e1, a2, ⟨a3, a4 1 (by omega) (by omega), a4 2 (by omega) (by omega), a4 3 (by omega) (by omega), a4 4 (by omega) (by omega)⟩, ⟨by omega, by omega, by omega, by omega⟩, z1, a1, fun p _ => ⟨rfl, rfl⟩, fun p p1 p2 => by omega, ⟨by omega, by omega⟩, fun q => absurd c3 q, fun _ => ⟨rfl, rfl⟩⟩
  · obtain ⟨lit, hlC, hlit⟩ : ∃ lit : Nat, ((lit = 2 ∧ (if kd = 2 then (52 : Int) else 486) = 52) ∨ (lit = 3 ∧ (if kd = 2 then (52 : Int) else 486) = 486)) ∧ F_Ps_readOrder n E S (B + 69) (iI kd) M2 = F_Ps_readOrder_b18 n E S (B + 69) lit (B + 69) M2 := by
      unfold F_Ps_readOrder
      rw [if_neg (show ¬ iI kd = 3 from ceqF (y := 3) c3 (by omega) (by omega) (by omega) (by omega))]
      by_cases q : kd = 2
      · exact ⟨2, Or.inl ⟨rfl, if_pos q⟩, by rw [if_pos (show iI kd = 2 from ceqT (y := 2) q)]⟩
      · exact ⟨3, Or.inr ⟨rfl, if_neg q⟩, by rw [if_neg (show ¬ iI kd = 2 from ceqF (y := 2) q (by omega) (by omega) (by omega) (by omega))]⟩
    rw [hlit]
    have red : F_Ps_readOrder_b18 n E S (B + 69) lit (B + 69) M2 = (F_Ps_readTwoSums n E S (B + 69) lit M2).bind fun q_14 => if q_14.1 = true then F_Ps_readOrder_b26 n E S (B + 69) q_14.2 else some (false, q_14.2) := by
      unfold F_Ps_readOrder_b18
      rw [hS.ck69, obs]
    rw [red]
    rcases st_two (E := E) hS hn hc hlC g2 k2 (by omega) with ⟨M3, s3, e3, hA3, p3, l3, m3⟩ | ⟨M3, s3, st3, len1, len2, pt3, wm3, f1, f2, e3, hA3, g3, k3, ag, sm, ⟨n1, n2⟩, m3⟩
    · refine Or.inl ⟨M3, s3, by rw [e3, obs, if_neg Bool.false_ne_true], hA3, p3, l3, fun S' hS' MM mo ma nc h => ?_⟩
      obtain ⟨h1, ⟨h2, h3⟩, h4, h5, h6⟩ := h
      obtain ⟨MM1, e1, a1, a2, a3, a4, z1⟩ := a_head (n := n) (E := E) hS' hn h1 h3 h4 hc hk hk0
      rw [if_neg c3] at e1
      obtain ⟨MM2, x2, y2, z2⟩ := m3 S' hS' MM1 mo ma nc a1 (by omega)
      exact ⟨MM2, e1.trans x2, y2, (lx_lb z1).trans (ob_lb z2)⟩
    · have i1 := sm.1.1
      have i2 := sm.2.2.1.1
      refine Or.inr ⟨M3, s3, st3, len1, len2, pt3, wm3, f1, f2, by rw [e3, obs, if_pos rfl], g3, k3, hA3, ag, fun _ => sm, ⟨i1, i2, by omega, by omega⟩, fun S' hS' MM mo ma nc h => ?_⟩
      obtain ⟨h1, ⟨h2, h3⟩, h4, h5, h6⟩ := h
      obtain ⟨MM1, e1, a1, a2, a3, a4, z1⟩ := a_head (n := n) (E := E) hS' hn h1 h3 h4 hc hk hk0
      rw [if_neg c3] at e1
      obtain ⟨MM5, mo5, ma5, nc1, nc2, x5, h5', ⟨w1, w2, w3, w4⟩, z5, kp, bd, ⟨le1, le2, le3⟩, s1, s2⟩ := m3 S' hS' MM1 mo ma nc a1 (by omega)
      refine ⟨MM5, mo5, ma5, nc2, nc, nc1, nc1, nc2, e1.trans x5, ?_, ⟨?_, w1, w2, w3, w4⟩, ⟨by omega, by omega, by omega, by omega⟩, z1.trans (oc_lx z5 (by omega)), h5', kp, bd, ⟨by omega, by omega⟩, fun _ => ⟨s1, s2⟩, fun q => absurd q c3⟩
      · rw [(z5 _ _ (by unfold ocX psX; omega)).1]; exact a2
      · unfold NC; rw [(z5 _ _ (by unfold ocX psX; omega)).1]; exact a3
theorem cl_ord (hS : ShOK S B) (hn : 1000 ≤ n) (hB : CB M B true tb l cl s st len pt) (hc : cl < 12) (hl : len ≤ s) : ClSim n E S B true tb l (fun S' MM => F_Mo_readOrder n E S' (B + 105) MM) M cl s st len pt := by
  have wb := wix_b (tb := tb) (l := l) (s := s) (C := cA) (k := 4)
  have hsl := hB.1.2.1
  have red : F_Ps_readClause n E S (B + 69) M = F_Ps_readClause_b18 n E S (B + 69) 0 (B + 67) M := by
    unfold F_Ps_readClause
    rw [hS.g69_1, obs, hS.i69, obs, hB.2.2.1, if_neg (show ¬ bI true = 0 by decide)]
  by_cases c : wix tb l s cA 4 = -1
  · refine Or.inl ⟨M, s, ?_, zAg.rfl', hB.1.2.2.2.1, hsl, fun S' hS' MM mo ma nc h => ?_⟩
    · rw [red]
      unfold F_Ps_readClause_b18
      rw [hS.ck67, obs, (s_words hS hn hB.1).2.2.2, obs, c, if_pos (show iI (-1) = -1 by decide)]
    · obtain ⟨MM1, e1, b1, z1⟩ := a_head0 (n := n) (E := E) hS' hn h.1 h.2.1.2 h.2.2.1 (by omega) (Or.inl c)
      exact ⟨MM1, e1, b1, z1.mono (fun b j q => Or.inl q)⟩
  · have k1 : kdT tb l s = 1 := by
      by_cases z : kdT tb l s = 1
      · exact z
      · exact absurd (by unfold wix; rw [if_neg z]) c
    have sb := nx_b (tb := tb) hsl
    have sb2 := sb.2.2 (by omega)
    obtain ⟨M1, e1, g1, k1', hA1⟩ := s_open (n := n) (E := E) (kd := wix tb l s cA 4) hS hn hB hc
    obtain ⟨M2, e2, g2, hA2⟩ := g1.adv (n := n) (E := E) hS hn
    have k2 := k1'.ag hA2
    have red2 : F_Ps_readClause n E S (B + 69) M = (F_Ps_readOrder n E S (B + 69) (iI (wix tb l s cA 4)) M2).bind fun q_22 => if q_22.1 = true then F_Ps_readClause_b72 n E S (B + 69) q_22.2 else some (false, q_22.2) := by
      rw [red]
      unfold F_Ps_readClause_b18
      rw [hS.ck67, obs, (s_words hS hn hB.1).2.2.2, obs, if_neg (show ¬ iI (wix tb l s cA 4) = -1 from ceqF (y := -1) c (by omega) (by omega) (by omega) (by omega)), hS.g69_0, obs, hS.ck70, obs, e1, obs, hS.g69_1, obs, hS.ck67, obs, e2, obs, hS.i69, obs, g2.2.2.1, if_neg (show ¬ bI true = 0 by decide)]
    unfold ClSim
    rw [red2]
    rcases st_ord (E := E) hS hn rfl c sb2 hc g2 k2 hl with ⟨M4, s4, e4, hA4, p4, l4, m4⟩ | ⟨M3, s3, st3, len1, len2, pt3, wm3, f1, f2, e3, g3, k3, hA3, ag, sm, ⟨n1, n2, n3, n4⟩, m3⟩
    · exact Or.inl ⟨M4, s4, by rw [e4, obs, if_neg Bool.false_ne_true], (hA1.trans (clX_ct hA2)).trans hA4, p4, l4, m4⟩
    · rw [e3]
      rcases st_times (E := E) hS hn hc g3 k3 with ⟨M4, s4, e4, hA4, p4, l4, m4⟩ | ⟨M4, s4, tm, e4, hA4, g4, k4, htm, n5, m4⟩
      · refine Or.inl ⟨M4, s4, by rw [e4, obs, if_neg Bool.false_ne_true], ((hA1.trans (clX_ct hA2)).trans hA3).trans hA4, p4, l4, fun S' hS' MM mo ma nc h => ?_⟩
        obtain ⟨MM3, mo3, ma3, nc3, a1, a2, a3, a4, x3, _, _, _, z3, h3, _⟩ := m3 S' hS' MM mo ma nc h
        obtain ⟨MM4, x4, y4, z4⟩ := m4 S' hS' MM3 mo3 ma3 nc3 h3
        exact ⟨MM4, x3.trans x4, y4, (lx_lb z3).trans (ob_lb z4)⟩
      · rw [e4, obs, if_pos rfl]
        rcases sim_tail (E := E) hS hn (q := 134) (Or.inr rfl) hc (G := fun S' MM => F_Mo_readOrder_b209 n E S' (B + 105) (iI ((8 * cl : Nat) : Int)) MM) (H := fun S' MM => F_Mo_readOrder_b247 n E S' (B + 105) (iI ((8 * cl : Nat) : Int)) MM) (R := fun MM MM1 nc => NC MM1 B 134 cl 5 (nc : Nat) ∧ zAg (fun b j => b = B + 134 ∧ j = 8 * cl + 5) MM MM1) (fun S' hS' MM mo ma nc h => by
            obtain ⟨MM1, a1, a2, a4, a5⟩ := m_209 (n := n) (E := E) hS' hc h
            exact ⟨MM1, a1, ⟨a2, a4⟩, a5⟩) (fun S' hS' MM => m_247 hS' hc) g4 k4 (by omega) with ⟨M5, s5, e5, hA5, p5, l5, m5⟩ | ⟨M5, s5, st5, len5, pt5, wm5, tg, e5, hA5, g5, k5, ⟨w1, w2, w3⟩, ag5, tc, ⟨n6, n7⟩, m5⟩
        · refine Or.inl ⟨M5, s5, e5, (((hA1.trans (clX_ct hA2)).trans hA3).trans hA4).trans hA5, p5, l5, fun S' hS' MM mo ma nc h => ?_⟩
          obtain ⟨MM3, mo3, ma3, nc3, a1, a2, a3, a4, x3, _, _, _, z3, h3, _, _, ⟨le1, le2⟩, _⟩ := m3 S' hS' MM mo ma nc h
          have hnc := h.2.2.2.1
          obtain ⟨MM4, x4, h4, _, z4⟩ := m4 S' hS' MM3 mo3 ma3 nc3 h3
          obtain ⟨MM5, MM6, ⟨r1, r2⟩, x5, y5, z5⟩ := m5 S' hS' MM4 mo3 ma3 nc3 h4 (by omega)
          exact ⟨MM6, (x3.trans x4).trans x5, y5, (((lx_lb z3).trans (ob_lb (oc_ob z4 (by omega)))).trans (cx_lb (r2.mono (fun b j q => ⟨q.1, Or.inr q.2⟩)))).trans (tb_lb z5)⟩
        · have i5 : len2 ≤ len5 := by
            cases tg with
            | none => have : len2 = len5 := tc; omega
            | some g => have := tc.1; omega
          refine Or.inr ⟨M5, s5, st5, len5, pt5, (wix tb l s cA 4, tm, f1, f2, tg), e5, (((hA1.trans (clX_ct hA2)).trans hA3).trans hA4).trans hA5, g5, ⟨_, wm5, k5, ⟨w1, w2⟩, ⟨by show 0 ≤ wix tb l s cA 4; omega, by show wix tb l s cA 4 ≤ 3; omega, htm.1, htm.2⟩, fun q => ⟨⟨(sm q).1.cg (fun p p1 p2 => ag5 p (by omega)), (sm q).2.1.up w3⟩, fun _ => ⟨(sm q).2.2.1.cg (fun p p1 p2 => ag5 p p2), (sm q).2.2.2.up w3⟩⟩, tc, by show len ≤ len1; omega, by show len1 ≤ len2; omega, by show len2 ≤ len5; omega, by show len5 ≤ len5; omega⟩, fun p hp => (ag5 p (by omega)).trans (ag p hp), ⟨by omega, by omega, by omega⟩, fun S' hS' MM mo ma nc h => ?_⟩
          obtain ⟨MM3, mo3, ma3, nc3, a1, a2, a3, a4, x3, d21, ⟨v0, v1, v2, v3, v4⟩, ⟨o1, o2, o3, o4⟩, z3, h3, kp, bd, ⟨le1, le2⟩, sg, sz⟩ := m3 S' hS' MM mo ma nc h
          have hnc := h.2.2.2.1
          obtain ⟨MM4, x4, h4, v7, z4⟩ := m4 S' hS' MM3 mo3 ma3 nc3 h3
          obtain ⟨MM5, MM6, mo6, ma6, nc6, ⟨r1, r2⟩, x5, h6, z5, v6, kp2, bd2, nn3, tm6⟩ := m5 S' hS' MM4 mo3 ma3 nc3 h4 (by omega)
          have nn4 : nc3 ≤ nc6 := by
            cases tg with
            | none => have : nc3 = nc6 := tm6; omega
            | some g => have := tm6.1; omega
          have zt : zAg (fun b j => psX B b j ∨ (b = B + 134 ∧ (j = 8 * cl + 5 ∨ j = 8 * cl + 6))) MM4 MM6 := (r2.mono (fun b j q => Or.inr ⟨q.1, Or.inl q.2⟩)).trans (z5.mono (fun b j q => by
            rcases q with q | q
            · exact Or.inl q
            · exact Or.inr ⟨q.1, Or.inr q.2⟩))
          have zall : zAg (lwX B 134 cl) MM MM6 := (z3.trans (oc_lx z4 (by omega))).trans (zt.mono (fun b j q => by unfold psX at q; unfold lwX psX; omega))
          have cell : ∀ i, i < 5 → mI MM6 (B + 134) (8 * cl + i) = mI MM3 (B + 134) (8 * cl + i) := fun i hi => by rw [(zt _ _ (by unfold psX; omega)).1, (z4 _ _ (by unfold ocX psX; omega)).1]
          refine ⟨MM6, mo6, ma6, nc6, (x3.trans x4).trans x5, ⟨h6, ⟨fun i hi => ?_, fun i hi => ?_⟩, ?_, by omega, ?_⟩, zall, ⟨fun p => if p = 1 then a1 else if p = 2 then a2 else if p = 3 then a3 else if p = 4 then a4 else if p = 5 then nc3 else nc6, ?_, fun p o p1 p2 => ?_, fun o => ?_, fun q => ⟨fun o => absurd o (by decide), fun _ => ⟨(sg q).1.cg (fun p p1 p2 => kp2 p (by omega)), (sg q).2.cg (fun p p1 p2 => kp2 p (by omega))⟩⟩, fun _ q => sz q, tm6⟩, fun p hp => ⟨(kp2 p (by omega)).1.trans (kp p hp).1, (kp2 p (by omega)).2.trans (kp p hp).2⟩, fun p p1 p2 => ?_, by omega⟩
          · rw [(zall _ _ (by unfold lwX psX; omega)).2.1]; exact h.2.1.1 i hi
          · rw [(zall _ _ (by unfold lwX psX; omega)).2.1]; exact h.2.1.2 i hi
          · rw [(zt _ _ (by unfold psX; omega)).1, (z4 _ _ (by unfold ocX psX; omega)).1]; exact d21
          · rw [(zall _ _ (by unfold lwX psX; omega)).1]; exact h.2.2.2.2
          · show mI MM6 (B + 134) (8 * cl + 0) = _
            rw [cell 0 (by omega)]; exact v0
          · show mI MM6 (B + 134) (8 * cl + p) = iI ((if p = 1 then a1 else if p = 2 then a2 else if p = 3 then a3 else if p = 4 then a4 else if p = 5 then nc3 else nc6 : Nat) : Int) ∧ (if p = 1 then a1 else if p = 2 then a2 else if p = 3 then a3 else if p = 4 then a4 else if p = 5 then nc3 else nc6) ≤ nc6
            have pp : p = 1 ∨ p = 2 ∨ p = 3 ∨ p = 4 ∨ p = 5 ∨ p = 6 := by omega
            rcases pp with rfl | rfl | rfl | rfl | rfl | rfl
            · rw [cell 1 (by omega)]; exact ⟨v1, by show a1 ≤ nc6; omega⟩
            · rw [cell 2 (by omega)]; exact ⟨v2, by show a2 ≤ nc6; omega⟩
            · rw [cell 3 (by omega)]; exact ⟨v3, by show a3 ≤ nc6; omega⟩
            · rw [cell 4 (by omega)]; exact ⟨v4, by show a4 ≤ nc6; omega⟩
            · rw [(z5 _ _ (by unfold tlX psX; omega)).1]; exact ⟨r1, by show nc3 ≤ nc6; omega⟩
            · exact ⟨v6, Nat.le_refl nc6⟩
          · show mI MM6 (B + 134) (8 * cl + 7) = _
            rw [(zt _ _ (by unfold psX; omega)).1]; exact v7
          · by_cases q : p < nc3
            · rw [(kp2 p q).1, (kp2 p q).2]; exact bd p p1 q
            · exact bd2 p (by omega) p2
end
