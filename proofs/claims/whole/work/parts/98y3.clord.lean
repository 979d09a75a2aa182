/-! orders: a clause, both sides -/
section
variable {n : Nat} {E : zE} {S : zS} {M : zH} {B : Nat} {tb : Nat → Int} {l cl s : Nat} {st : Nat → Int} {len pt wm : Nat} {kd : Int} {mk : Nat → Nat}
theorem st_times (hS : ShOK S B) (hn : 1000 ≤ n) (hcl : cl < 12) (hC : CS M B true tb l cl s st len pt wm) (hk : KT M B cl kd 1 mk) :
  (∃ (M' : zH) (s' : Nat), F_Ps_readOrder_b26 n E S (B + 69) M = some (false, M') ∧ zAg (ctX B cl) M M' ∧ mI M' (B + 67) 3 = iI (s' : Int) ∧ s' ≤ l ∧ ∀ (S' : zS), ShOK S' B → ∀ MM mo ma nc, MK MM B true tb l s mo ma nc pt → ∃ MM', F_Mo_readOrder_b161 n E S' (B + 105) (iI ((8 * cl : Nat) : Int)) MM = some MM' ∧ MBd MM' B s' ∧ zAg (ocB B cl) MM MM') ∨
  (∃ (M' : zH) (s' : Nat) (tm : Int), F_Ps_readOrder_b26 n E S (B + 69) M = some (true, M') ∧ zAg (ctX B cl) M M' ∧ CS M' B true tb l cl s' st len pt wm ∧ KT M' B cl kd tm mk ∧ (1 ≤ tm ∧ tm ≤ 20) ∧ s ≤ s' ∧ ∀ (S' : zS), ShOK S' B → ∀ MM mo ma nc, MK MM B true tb l s mo ma nc pt → ∃ MM1, F_Mo_readOrder_b161 n E S' (B + 105) (iI ((8 * cl : Nat) : Int)) MM = F_Mo_readOrder_b209 n E S' (B + 105) (iI ((8 * cl : Nat) : Int)) MM1 ∧ MK MM1 B true tb l s' mo ma nc pt ∧ NC MM1 B 134 cl 7 tm ∧ zAg (ocX B cl 7 8) MM MM1) := by
  have hsl := hC.1.2.1
  have hw : isWd tb l s 8 = wis tb l s 21279923 := (wd_all (tb := tb) hsl).2.2.1
  have red : F_Ps_readOrder_b26 n E S (B + 69) M = if wis tb l s 21279923 = true then (F_Ta_advance n E S (B + 67) M).bind fun q_5 => (F_Ta_atNumber n E S (B + 67) (iI 1) (iI 20) q_5).bind fun q_6 => if q_6.1 = true then (F_Ta_number n E S (B + 67) q_6.2).bind fun q_9 => (F_Te_setTimes n E S (B + 70) q_9.1 q_9.2).bind fun q_11 => (F_Ta_advance n E S (B + 67) q_11).bind fun q_12 => some (true, q_12) else some (false, q_6.2) else some (true, M) := by
    unfold F_Ps_readOrder_b26
    rw [hS.g69_1, obs, hS.ck67, obs, s_atWord hS hn hC.1 (by decide), obs, hw, iL1, show (20 : Int32) = iI 20 by decide, hS.g69_0]
    simp only [obs, hS.ck70]
  rw [red]
  cases hv : wis tb l s 21279923
  · rw [if_neg Bool.false_ne_true]
    refine Or.inr ⟨M, s, 1, rfl, zAg.rfl', hC, hk, by decide, Nat.le_refl _, fun S' hS' MM mo ma nc h => ⟨_, o_161n hS' hcl h hv, h.s134, mI_s, oc_set (cl := cl) (i := 7)⟩⟩
  · rw [if_pos rfl]
    obtain ⟨M1, e1, g1, hA1⟩ := hC.adv (n := n) (E := E) hS hn
    have sb := nx_b (tb := tb) hsl
    rw [e1, obs, s_atNumber hS g1.1 (by omega) (by omega) (by omega) (by omega), obs]
    by_cases d : kdT tb l (nx tb l s) = 2 ∧ 1 ≤ vT tb l (nx tb l s) ∧ vT tb l (nx tb l s) ≤ 20
    · have d' := (vw_n (tb := tb) (a := 1) (b := 20) g1.1.2.1 (by omega)).mp d
      have ew : vT tb l (nx tb l s) = wT tb l (nx tb l s) := by
        rcases vw (tb := tb) g1.1.2.1 d.1 with q | q
        · exact q.1
        · omega
      have sb2 := nx_b (tb := tb) g1.1.2.1
      obtain ⟨M2, e2, g2, k2, hA2⟩ := g1.times (n := n) (E := E) hS (hk.ag hA1) (v := vT tb l (nx tb l s))
      obtain ⟨M3, e3, g3, hA3⟩ := g2.adv (n := n) (E := E) hS hn
      refine Or.inr ⟨M3, nx tb l (nx tb l s), vT tb l (nx tb l s), by rw [if_pos (decide_eq_true d), s_num hS g1.1, obs, e2, obs, e3, obs], ((clX_ct hA1).trans hA2).trans (clX_ct hA3), g3, k2.ag hA3, d.2, by omega, fun S' hS' MM mo ma nc h => ?_⟩
      obtain ⟨MM1, h1, z1, f1⟩ := o_161y (n := n) (E := E) hS' hn hcl h hv
      obtain ⟨MM2, f2, h2, z2⟩ := h1.numb1 (n := n) (E := E) hS' hn d'.1 d'.2
      rw [f2, obs] at f1
      exact ⟨_, f1, h2.s134, by rw [ew]; exact mI_s, (z1.trans (oc_ps z2)).trans (oc_set (cl := cl) (i := 7))⟩
    · refine Or.inl ⟨M1, nx tb l s, by rw [if_neg (fun z => d (of_decide_eq_true z))], clX_ct hA1, g1.1.2.2.2.1, sb.2.1, fun S' hS' MM mo ma nc h => ?_⟩
      obtain ⟨MM1, h1, z1, f1⟩ := o_161y (n := n) (E := E) hS' hn hcl h hv
      obtain ⟨v, MM2, f2, b2, z2⟩ := h1.numb0 (n := n) (E := E) hS' (fun z => d ((vw_n (tb := tb) (a := 1) (b := 20) g1.1.2.1 (by omega)).mpr z))
      obtain ⟨MM3, f3, b3, z3⟩ := o_209B (n := n) (E := E) hS' hcl (b2.s134 (j := 8 * cl + 7) (v := v))
      rw [f2, obs, f3] at f1
      exact ⟨MM3, f1, b3, (((oc_ob z1 (by omega)).trans (ob_ps z2)).trans (ob_set (by omega))).trans z3⟩
/-- two sums and what stands between -/
theorem st_two (hS : ShOK S B) (hn : 1000 ≤ n) (hcl : cl < 12) {lit : Nat} {C : Int} (hlC : (lit = 2 ∧ C = 52) ∨ (lit = 3 ∧ C = 486)) (hC : CS M B true tb l cl s st len pt wm) (hk : KT M B cl kd 1 (fun _ => len)) (hl : len ≤ s) :
  (∃ (M' : zH) (s' : Nat), F_Ps_readTwoSums n E S (B + 69) lit M = some (false, M') ∧ zAg (ctX B cl) M M' ∧ mI M' (B + 67) 3 = iI (s' : Int) ∧ s' ≤ l ∧ ∀ (S' : zS), ShOK S' B → ∀ MM mo ma nc, MK MM B true tb l s mo ma nc pt → nc ≤ s → ∃ MM', ((F_Mo_readSum n E S' (B + 105) (iI ((8 * cl : Nat) : Int) + iI ((1 : Nat) : Int)) MM).bind fun q_32 => (zgI S' q_32 (B + 105) 11 19).bind fun v_33 => if v_33 = iI 0 then F_Mo_readOrder_b148 n E S' (B + 105) (iI ((8 * cl : Nat) : Int)) (jJ C) (B + 105) (B + 105) q_32 else F_Mo_readOrder_b154 n E S' (B + 105) (iI ((8 * cl : Nat) : Int)) q_32) = some MM' ∧ MBd MM' B s' ∧ zAg (ocB B cl) MM MM') ∨
  (∃ (M' : zH) (s' : Nat) (st' : Nat → Int) (len1 len2 pt' wm' : Nat) (f1 f2 : Fn), F_Ps_readTwoSums n E S (B + 69) lit M = some (true, M') ∧ zAg (ctX B cl) M M' ∧ CS M' B true tb l cl s' st' len2 pt' wm' ∧ KT M' B cl kd 1 (fun i => if i < 2 then (if i < 1 then len else len1) else len2) ∧ (∀ p, p < len → st' p = st p) ∧ (sgC st' 19 len len1 50 f1 ∧ dpw wm' f1 ∧ sgC st' 19 len1 len2 50 f2 ∧ dpw wm' f2) ∧ (len2 + s ≤ len + s' ∧ s < s') ∧ ∀ (S' : zS), ShOK S' B → ∀ MM mo ma nc, MK MM B true tb l s mo ma nc pt → nc ≤ s → ∃ MM5 mo' ma' nc1 nc2, ((F_Mo_readSum n E S' (B + 105) (iI ((8 * cl : Nat) : Int) + iI ((1 : Nat) : Int)) MM).bind fun q_32 => (zgI S' q_32 (B + 105) 11 19).bind fun v_33 => if v_33 = iI 0 then F_Mo_readOrder_b148 n E S' (B + 105) (iI ((8 * cl : Nat) : Int)) (jJ C) (B + 105) (B + 105) q_32 else F_Mo_readOrder_b154 n E S' (B + 105) (iI ((8 * cl : Nat) : Int)) q_32) = F_Mo_readOrder_b161 n E S' (B + 105) (iI ((8 * cl : Nat) : Int)) MM5 ∧ MK MM5 B true tb l s' mo' ma' nc2 pt' ∧ (NC MM5 B 134 cl 1 (nc : Nat) ∧ NC MM5 B 134 cl 2 (nc1 : Nat) ∧ NC MM5 B 134 cl 3 (nc1 : Nat) ∧ NC MM5 B 134 cl 4 (nc2 : Nat)) ∧ zAg (ocX B cl 1 5) MM MM5 ∧ (∀ p, p < nc → mo' p = mo p ∧ ma' p = ma p) ∧ (∀ p, nc ≤ p → p < nc2 → 0 ≤ mo' p ∧ mo' p ≤ 30 ∧ 0 ≤ ma' p ∧ ma' p ≤ 1000) ∧ (nc ≤ nc1 ∧ nc1 ≤ nc2 ∧ nc2 + s ≤ nc + s') ∧ sgM true mo' ma' (fun _ => True) nc nc1 50 f1 ∧ sgM true mo' ma' (fun _ => True) nc1 nc2 50 f2) := by
  have hl4 := hC.1.1.1
  have hlit : lit < 14 ∧ 0 ≤ C ∧ C ≤ 1000 := by omega
  have red : ∀ q, F_Ps_readSum_D n E S 10 (B + 69, iI ((0 : Nat) : Int), M) = some q → F_Ps_readTwoSums n E S (B + 69) lit M = if q.1 = true then (F_Te_mark n E S (B + 70) (iI ((1 : Nat) : Int)) q.2).bind fun q_6 => (F_Ta_atWord n E S (B + 67) lit q_6).bind fun q_9 => if q_9.1 = true then (F_Ta_advance n E S (B + 67) q_9.2).bind fun q_11 => (F_Ps_readSum_D n E S 10 (B + 69, iI ((0 : Nat) : Int), q_11)).bind fun q_12 => if q_12.1 = true then (F_Te_mark n E S (B + 70) (iI ((2 : Nat) : Int)) q_12.2).bind fun q_14 => some (true, q_14) else some (false, q_12.2) else some (false, q_9.2) else some (false, q.2) := fun q e => by
    unfold F_Ps_readTwoSums
    rw [hS.ck69, obs, show (0 : Int32) = iI ((0 : Nat) : Int) by decide, e, obs, hS.g69_0, obs, hS.ck70, obs, hS.g69_1]
    simp only [obs, hS.ck67]
    rfl
  rcases sim_sumD (tt := 0) hS hn 10 0 (by omega) (by omega) 1 M s st len pt wm hC hl (Or.inl rfl) with ⟨M1, s1, e1, hA1, p1, b1⟩ | ⟨M1, s1, st1, len1, pt1, wm1, f1, e1, hA1, g1, oc1, om1, ec1⟩
  · refine Or.inl ⟨M1, s1, by rw [red _ e1, if_neg Bool.false_ne_true], clX_ct hA1, p1, b1.2.1, fun S' hS' MM mo ma nc h hnc => ?_⟩
    obtain ⟨MM1, x1, y1, z1⟩ := o_sum0 (n := n) (E := E) hS' hn hl4 hcl (i := 1) (by omega) b1 h hnc
    obtain ⟨MM2, x2, y2, z2⟩ := o_154B (n := n) (E := E) hS' hcl y1
    exact ⟨MM2, by rw [x1, obs, hS'.i105, obs, y1.1, if_neg (show ¬ iI 1 = iI 0 by decide)]; exact x2, y2, z1.trans z2⟩
  · obtain ⟨c1, c2, c3, c4, c5, c6, c7⟩ := oc1
    have hs1l := g1.1.2.1
    have i1 := c2.1
    obtain ⟨M2, e2, g2, k2, hA2⟩ := g1.mark (n := n) (E := E) hS hn (hk.ag hA1) (p := 1) (by omega)
    have hw : isWd tb l s1 lit = wis tb l s1 C := by
      rcases hlC with ⟨q1, q2⟩ | ⟨q1, q2⟩
      · rw [q1, q2]; exact (wd_all (tb := tb) hs1l).1
      · rw [q1, q2]; exact (wd_all (tb := tb) hs1l).2.1
    rw [red _ e1, if_pos rfl, e2, obs, s_atWord hS hn g2.1 hlit.1, obs, hw]
    cases hv : wis tb l s1 C
    · rw [if_neg Bool.false_ne_true]
      refine Or.inl ⟨M2, s1, rfl, (clX_ct hA1).trans hA2, g2.1.2.2.2.1, hs1l, fun S' hS' MM mo ma nc h hnc => ?_⟩
      obtain ⟨MM1, mo1, ma1, nc1, x1, h1, _, _, z1, n1, cd⟩ := o_sum (n := n) (E := E) hS' hn hl4 hcl (i := 1) (by omega) om1 ec1 hs1l h hnc
      obtain ⟨MM2, x2, y2, z2⟩ := o_148B (n := n) (E := E) hS' hcl hlit.2 h1 hv
      exact ⟨MM2, by rw [x1, obs, hS'.i105, obs, h1.2.2.2.1, if_pos rfl]; exact x2, y2, (oc_ob z1 (by omega)).trans z2⟩
    · rw [if_pos rfl]
      obtain ⟨M3, e3, g3, hA3⟩ := g2.adv (n := n) (E := E) hS hn
      have sb := nx_b (tb := tb) hs1l
      have k1' : kdT tb l s1 = 1 := by unfold wis at hv; exact (of_decide_eq_true hv).1
      have sb2 := sb.2.2 (by omega)
      rw [e3, obs]
      have mod : ∀ (S' : zS), ShOK S' B → ∀ MM mo ma nc, MK MM B true tb l s mo ma nc pt → nc ≤ s → ∃ MM2 mo1 ma1 nc1, ((F_Mo_readSum n E S' (B + 105) (iI ((8 * cl : Nat) : Int) + iI ((1 : Nat) : Int)) MM).bind fun q_32 => (zgI S' q_32 (B + 105) 11 19).bind fun v_33 => if v_33 = iI 0 then F_Mo_readOrder_b148 n E S' (B + 105) (iI ((8 * cl : Nat) : Int)) (jJ C) (B + 105) (B + 105) q_32 else F_Mo_readOrder_b154 n E S' (B + 105) (iI ((8 * cl : Nat) : Int)) q_32) = F_Mo_readOrder_b154 n E S' (B + 105) (iI ((8 * cl : Nat) : Int)) MM2 ∧ MK MM2 B true tb l (nx tb l s1) mo1 ma1 nc1 pt1 ∧ NC MM2 B 134 cl 1 (nc : Nat) ∧ NC MM2 B 134 cl 2 (nc1 : Nat) ∧ zAg (ocX B cl 1 3) MM MM2 ∧ nc1 + s ≤ nc + s1 ∧ cdOK true mo ma nc (mo1, ma1, nc1) (pt1 - pt) f1 := fun S' hS' MM mo ma nc h hnc => by
        obtain ⟨MM1, mo1, ma1, nc1, x1, h1, y1, y2, z1, n1, cd⟩ := o_sum (n := n) (E := E) hS' hn hl4 hcl (i := 1) (by omega) om1 ec1 hs1l h hnc
        obtain ⟨MM2, x2, h2, z2⟩ := o_148 (n := n) (E := E) (cl := cl) hS' hn hlit.2 h1 hv
        refine ⟨MM2, mo1, ma1, nc1, by rw [x1, obs, hS'.i105, obs, h1.2.2.2.1, if_pos rfl]; exact x2, h2, ?_, ?_, z1.trans (oc_ps z2), n1, cd⟩
        · unfold NC; rw [(z2 _ _ (by unfold psX; omega)).1]; exact y1
        · unfold NC; rw [(z2 _ _ (by unfold psX; omega)).1]; exact y2
      rcases sim_sumD (tt := 0) hS hn 10 0 (by omega) (by omega) 1 M3 (nx tb l s1) st1 len1 pt1 wm1 g3 (by omega) (Or.inl rfl) with ⟨M4, s4, e4, hA4, p4, b4⟩ | ⟨M4, s4, st4, len4, pt4, wm4, f2, e4, hA4, g4, oc4, om4, ec4⟩
      · refine Or.inl ⟨M4, s4, by rw [e4, obs, if_neg Bool.false_ne_true], (((clX_ct hA1).trans hA2).trans (clX_ct hA3)).trans (clX_ct hA4), p4, b4.2.1, fun S' hS' MM mo ma nc h hnc => ?_⟩
        obtain ⟨MM2, mo1, ma1, nc1, x2, h2, _, _, z2, n2, cd⟩ := mod S' hS' MM mo ma nc h hnc
        obtain ⟨MM3, x3, y3, z3⟩ := o_sum0 (n := n) (E := E) hS' hn hl4 hcl (i := 3) (by omega) b4 h2 (by omega)
        obtain ⟨MM4, x4, y4, z4⟩ := o_161B (n := n) (E := E) hS' hcl y3
        refine ⟨MM4, ?_, y4, ((oc_ob z2 (by omega)).trans z3).trans z4⟩
        rw [x2]
        unfold F_Mo_readOrder_b154
        rw [hS'.ck105, obs, show (3 : Int32) = iI ((3 : Nat) : Int) by decide, x3, obs]
        exact x4
      · obtain ⟨d1, d2, d3, d4, d5, d6, d7⟩ := oc4
        have hs4l := g4.1.2.1
        have pt5 := g4.2.1.2.2
        have i2 := d2.1
        obtain ⟨M5, e5, g5, k5, hA5⟩ := g4.mark (n := n) (E := E) hS hn ((k2.ag hA3).ag hA4) (p := 2) (by omega)
        refine Or.inr ⟨M5, s4, st4, len1, len4, pt4, wm4, f1, f2, by rw [e4, obs, if_pos rfl, e5, obs], ((((clX_ct hA1).trans hA2).trans (clX_ct hA3)).trans (clX_ct hA4)).trans hA5, g5, k5, fun p hp => (d1 p (by omega)).trans (c1 p hp), ⟨(c2.cg (fun p p1 p2 => d1 p p2)).up (by omega), c3.up d4, d2.up (by omega), d3⟩, ⟨by omega, by omega⟩, fun S' hS' MM mo ma nc h hnc => ?_⟩
        obtain ⟨MM2, mo1, ma1, nc1, x2, h2, y1, y2, z2, n2, cd⟩ := mod S' hS' MM mo ma nc h hnc
        obtain ⟨MM3, mo3, ma3, nc3, x3, h3, w1, w2, z3, n3, cd3⟩ := o_sum (n := n) (E := E) hS' hn hl4 hcl (i := 3) (by omega) om4 ec4 hs4l h2 (by omega)
        have le1 := cd.le
        have le3 := cd3.le
        dsimp only at le1 le3
        refine ⟨MM3, mo3, ma3, nc1, nc3, ?_, h3, ⟨?_, ?_, w1, w2⟩, (oc_up z2 (by omega) (by omega)).trans (oc_up z3 (by omega) (by omega)), fun p hp => ⟨(cd3.1 p (by omega)).1.trans (cd.1 p hp).1, (cd3.1 p (by omega)).2.trans (cd.1 p hp).2⟩, fun p q1 q2 => ?_, ⟨le1, le3, by omega⟩, (cd.2.1.cg (fun p q1 q2 => cd3.1 p q2)).up (by omega), cd3.2.1.up (by omega)⟩
        · rw [x2]
          unfold F_Mo_readOrder_b154
          rw [hS'.ck105, obs, show (3 : Int32) = iI ((3 : Nat) : Int) by decide, x3, obs]
        · unfold NC; rw [(z3 _ _ (by unfold ocX psX; omega)).1]; exact y1
        · unfold NC; rw [(z3 _ _ (by unfold ocX psX; omega)).1]; exact y2
        · by_cases q : p < nc1
          · have e := cd3.1 p q
            dsimp only at e
            rw [e.1, e.2]; exact cd.2.2 p q1 q
          · exact cd3.2.2 p (by omega) q2
end
