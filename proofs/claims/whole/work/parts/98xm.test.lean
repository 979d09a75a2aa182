/-! law and orders: the simulation: comparisons, not, brackets, and, or -/
section
variable {M : zH} {B : Nat}
theorem cmpd_app {R : List (Int × Int)} : ∀ (Q : List (Int × Int)), pil M B (Q ++ R) → (∀ x ∈ Q, 5 ≤ bnd x.1) → cmpd (Q ++ R) = cmpd R := by
  intro Q
  induction Q with
  | nil => intro _ _; rfl
  | cons x t ih =>
    intro hp h
    have e : cmpd (x :: (t ++ R)) = if 20 ≤ x.1 ∧ x.1 ≤ 24 then cmpd (t ++ R) else decide (25 ≤ x.1 ∧ x.1 ≤ 27) := rfl
    have h5 := h x (List.mem_cons_self ..)
    have h3 := hp.2.2.1
    have h24 : x.1 ≤ 24 := by
      by_cases c : x.1 ≤ 24
      · exact c
      · unfold bnd at h5
        exfalso
        repeat' split at h5
        all_goals omega
    rw [List.cons_append, e, if_pos ⟨h3.1, h24⟩]
    exact ih hp.2.2.2 (fun y hy => h y (List.mem_cons_of_mem _ hy))
theorem cmpd_pre {Pl : List (Int × Int)} (hp : pil M B Pl) (h : preP 4 Pl) : cmpd Pl = false := by
  rcases h with q | ⟨y, t, q, q2⟩
  · rw [q]; rfl
  · rw [q] at hp ⊢
    have e : cmpd (y :: t) = if 20 ≤ y.1 ∧ y.1 ≤ 24 then cmpd t else decide (25 ≤ y.1 ∧ y.1 ≤ 27) := rfl
    have h28 : 28 ≤ y.1 := by
      by_cases c : 28 ≤ y.1
      · exact c
      · unfold bnd at q2
        exfalso
        repeat' split at q2
        all_goals omega
    rw [e, if_neg (by omega), decide_eq_false (by omega)]
end
def nots (j : Nat) : List (Int × Int) := List.replicate j (28, 0)
def ntI (j : Nat) (f : (Nat → Int) → Option Int) : (Nat → Int) → Option Int := if j % 2 = 0 then f else ntF f
theorem ntI_s {j : Nat} {f : (Nat → Int) → Option Int} (h : tst f) : ntI j (ntF f) = ntI (j + 1) f := by
  unfold ntI
  by_cases c : j % 2 = 0
  · rw [if_pos c, if_neg (by omega)]
  · rw [if_neg c, if_pos (by omega), ntF2 h]
theorem cd_nots {ord : Bool} {mo ma : Nat → Int} {nc d : Nat} : ∀ (j : Nat) (c : Cd) (f : (Nat → Int) → Option Int), cdOK ord mo ma nc c d f → tst f → cdOK ord mo ma nc (flu (nots j) c) d (ntI j f) := by
  intro j
  induction j with
  | zero => intro c f h _; exact h
  | succ j ih =>
    intro c f h ht
    rw [← ntI_s ht]
    have e : flu (nots (j + 1)) c = flu (nots j) (fl1 (28, 0) c) := rfl
    rw [e, fl1_ar (show (28 : Int) < 29 by decide)]
    exact ih _ _ (cd_not h ht) ht.nt
theorem nots_b {j : Nat} : ∀ x ∈ nots j, 3 ≤ bnd x.1 := fun x hx => by
  unfold nots at hx
  rw [List.eq_of_mem_replicate hx]
  decide
theorem nots_l {j : Nat} : (nots j).length = j := List.length_replicate
section
variable {n : Nat} {E : zE} {S : zS} {M M0 : zH} {B : Nat} {ord : Bool} {tb : Nat → Int} {l cl s s' s0 dp : Nat} {st st0 : Nat → Int} {len pt pt' wm len0 pt0 wm0 : Nat} {tt t0 te L L' : Int} {rc : Nat × Int32 × zH → Option (Bool × zH)} {f : (Nat → Int) → Option Int}
/-- a comparison -/
theorem sim_cmp (hS : ShOK S B) (hn : 1000 ≤ n) (hd : dp ≤ 8) (hC : CS M B ord tb l cl s st len pt wm) (hl : len ≤ s) (hst : pst tb l s 0) : Sim n E S B ord tb l cl 4 1 0 2 dp s st len pt wm M (fun _ f => tst f) (F_Ps_readComparison n E S (B + 69) (iI (dp : Int)) M) := by
  have hl4 := hC.1.1.1
  have dn : ∀ MM Pl mo ma nc, Pre MM B ord tb l s pt dp 4 2 Pl mo ma nc → Pre MM B ord tb l s pt dp 5 3 Pl mo ma nc := fun MM Pl mo ma nc hp => ⟨hp.1, hp.2.1.lv (by decide), fun q => by omega, hp.2.2.2⟩
  rcases sim_sumD (tt := 1) hS hn 10 dp (by omega) hd 0 M s st len pt wm hC hl hst with ⟨M2, s2, e2, hA2, p2, b2⟩ | ⟨M2, s2, st2, len2, pt2, wm2, f, e2, hA2, g2, oc2, om2, ec2⟩
  · refine Or.inl ⟨M2, s2, ?_, hA2, p2, b2.1, b2.2.1, fun S' hS' MM Pl mo ma nc hp => b2.2.2 S' hS' MM Pl mo ma nc (dn MM Pl mo ma nc hp)⟩
    unfold F_Ps_readComparison
    rw [hS.ck69, obs, e2, obs, if_neg Bool.false_ne_true]
  · have hs2l := g2.1.2.1
    obtain ⟨c1, c2, c3, c4, c5, c6, c7⟩ := oc2
    rcases sg11 (tb := tb) (l := l) (s := s2) with ⟨k1, k2⟩ | ⟨k1, k2, k3, k4⟩
    · refine Or.inl ⟨M2, s2, ?_, hA2, g2.1.2.2.2.1, by omega, hs2l, fun S' hS' MM Pl mo ma nc hp => ?_⟩
      · unfold F_Ps_readComparison
        rw [hS.ck69, obs, e2, obs, if_pos rfl, hS.g69_1, obs, hS.ck67, obs, s_signIn hS hn g2.1 (by decide) (by decide), obs, k1, if_pos (show iI (-1) = -1 by decide)]
      · obtain ⟨k, MM1, Q, mo1, ma1, nc1, r1, kk, h1, z1, q1, b1, cd⟩ := om2 S' hS' MM Pl mo ma nc (dn MM Pl mo ma nc hp)
        obtain ⟨hp1, hp2, hp3, hp4⟩ := hp
        have hi : inn (Q ++ Pl) ≠ 32 := by rw [inn_app Q (fun x hx => by have := q1 x hx; omega)]; exact hp3 rfl
        have hcm : cmpd (Q ++ Pl) = false := by rw [cmpd_app Q h1.1.2.1.1.2.2 q1]; exact cmpd_pre hp1.1.2.1.1.2.2 hp2
        obtain ⟨MM2, e4, g4, z4⟩ := m_bsCmp0 (n := n) (E := E) hS' hn ec2 h1.1 (by rw [List.length_append]; omega) hi hcm k2
        exact ⟨k + 1, 1, MM2, r1.trans (rc_3 hS' h1.1.2.2 e4), by omega, g4, (toB z1).trans z4⟩
    · obtain ⟨M3, e3, g3, hA3⟩ := g2.adv (n := n) (E := E) hS hn
      have sb := nx_b (tb := tb) hs2l
      have sb2 := sb.2.2 (by omega)
      have hs2 := kdT_l (tb := tb) (l := l) (s := s2) (by omega)
      have hbd : bnd (cpS tb l s2) = 4 := bnd_4 (by omega) (by omega)
      have mod : ∀ (S' : zS), ShOK S' B → ∀ MM Pl mo ma nc, Pre MM B ord tb l s pt dp 4 2 Pl mo ma nc → ∃ k MM1 Q mo1 ma1 nc1, Rc n E S' B 1 k 0 MM 1 MM1 ∧ k + 2 * s + 1 ≤ 2 * nx tb l s2 ∧ Pre MM1 B ord tb l (nx tb l s2) pt2 dp 5 3 ((cpS tb l s2, 0) :: Pl) (flu Q (mo1, ma1, nc1)).1 (flu Q (mo1, ma1, nc1)).2.1 (flu Q (mo1, ma1, nc1)).2.2 ∧ zAg (psX B) MM MM1 ∧ (flu Q (mo1, ma1, nc1)).2.2 + s ≤ nc + s2 ∧ cdOK ord mo ma nc (flu Q (mo1, ma1, nc1)) (pt2 - pt) f := fun S' hS' MM Pl mo ma nc hp => by
        obtain ⟨k, MM1, Q, mo1, ma1, nc1, r1, kk, h1, z1, q1, b1, cd⟩ := om2 S' hS' MM Pl mo ma nc (dn MM Pl mo ma nc hp)
        obtain ⟨hp1, hp2, hp3, hp4⟩ := hp
        have hi : inn (Q ++ Pl) ≠ 32 := by rw [inn_app Q (fun x hx => by have := q1 x hx; omega)]; exact hp3 rfl
        have hcm : cmpd (Q ++ Pl) = false := by rw [cmpd_app Q h1.1.2.1.1.2.2 q1]; exact cmpd_pre hp1.1.2.1.1.2.2 hp2
        obtain ⟨MM2, e4, g4, z4⟩ := m_bsCmp (n := n) (E := E) hS' hn ec2 (P := Pl) (Q := Q) (hp2.lv (by decide)) h1.1 hi hcm (by omega) q1 (by omega) (by omega)
        have fl := flu_len Q (mo1, ma1, nc1)
        dsimp only at fl
        exact ⟨k + 1, MM2, Q, mo1, ma1, nc1, r1.trans (rc_3 hS' h1.1.2.2 e4), by omega, ⟨h1.to g4 z4, Or.inr ⟨_, _, rfl, by show bnd (cpS tb l s2) < 5; omega⟩, fun q => by omega, by rw [List.length_cons]; omega⟩, z1.trans z4, by omega, cd⟩
      rcases sim_sumD (tt := 1) hS hn 10 dp (by omega) hd 1 M3 (nx tb l s2) st2 len2 pt2 wm2 g3 (by omega) (Or.inl rfl) with ⟨M4, s4, e4, hA4, p4, b4⟩ | ⟨M4, s4, st4, len4, pt4, wm4, g, e4, hA4, g4, oc4, om4, ec4⟩
      · refine Or.inl ⟨M4, s4, ?_, (hA2.trans hA3).trans hA4, p4, by have := b4.1; omega, b4.2.1, fun S' hS' MM Pl mo ma nc hp => ?_⟩
        · unfold F_Ps_readComparison
          rw [hS.ck69, obs, e2, obs, if_pos rfl, hS.g69_1, obs, hS.ck67, obs, s_signIn hS hn g2.1 (by decide) (by decide), obs, if_neg (show ¬ iI (sgT tb l s2 11) = -1 from ceqF (y := -1) (by omega) (by omega) (by omega) (by omega) (by omega)), e3, obs, e4, obs, if_neg Bool.false_ne_true]
        · obtain ⟨k, MM1, Q, mo1, ma1, nc1, r1, kk, pr, z1, nn, cd⟩ := mod S' hS' MM Pl mo ma nc hp
          obtain ⟨k2', t', MM2, r2, kk2, bd, z2⟩ := b4.2.2 S' hS' _ _ _ _ _ pr
          exact ⟨k + k2', t', MM2, r1.trans r2, by omega, bd, (toB z1).trans z2⟩
      · obtain ⟨d1, d2, d3, d4, d5, d6, d7⟩ := oc4
        have hs4l := g4.1.2.1
        have pt5 := g4.2.1.2.2
        have i1 := c2.1
        have i2 := d2.1
        obtain ⟨M5, e5, g5, hA5⟩ := g4.add (n := n) (E := E) hS (by omega) (o := 10 + sgT tb l s2 11) (v := 0) (by omega) (by omega)
        refine Or.inr ⟨M5, s4, _, _, _, _, bnF (10 + sgT tb l s2 11) f g, ?_, ((hA2.trans hA3).trans hA4).trans hA5, g5, ⟨fun p hp => ?_, ?_, (c3.up d4).bn d3, c4.trans d4, by omega, by omega, by omega⟩, fun S' hS' MM Pl mo ma nc hp => ?_, tst.cmp (by omega)⟩
        · unfold F_Ps_readComparison
          rw [hS.ck69, obs, e2, obs, if_pos rfl, hS.g69_1, obs, hS.ck67, obs, s_signIn hS hn g2.1 (by decide) (by decide), obs, if_neg (show ¬ iI (sgT tb l s2 11) = -1 from ceqF (y := -1) (by omega) (by omega) (by omega) (by omega) (by omega)), e3, obs, e4, obs, if_pos rfl, hS.g69_0, obs, hS.ck70, obs, show (10 : Int32) = iI 10 by decide, iI_add, iL0, e5, obs]
        · rw [upF_n (by omega), d1 p (by omega)]; exact c1 p hp
        · refine (sgC.bin (c2.cg (fun p p1 p2 => ?_)) (d2.cg (fun p p1 p2 => ?_)) (by rw [upF_s]; omega) (by omega)).up (by omega)
          · rw [upF_n (by omega)]; exact d1 p (by omega)
          · exact upF_n (by omega)
        · obtain ⟨k, MM1, Q, mo1, ma1, nc1, r1, kk, pr, z1, nn, cd⟩ := mod S' hS' MM Pl mo ma nc hp
          obtain ⟨k2', MM2, Q2, mo2, ma2, nc2, r2, kk2, h2, z2, q2, b2, cd2⟩ := om4 S' hS' _ _ _ _ _ pr
          obtain ⟨hp1, hp2, hp3, hp4⟩ := hp
          have hi : inn (Q2 ++ (cpS tb l s2, 0) :: Pl) ≠ 32 := by
            rw [inn_app Q2 (fun x hx => by have := q2 x hx; omega)]
            show (if 31 ≤ cpS tb l s2 then cpS tb l s2 else inn Pl) ≠ 32
            rw [if_neg (by omega)]
            exact hp3 rfl
          have hcm : cmpd (Q2 ++ (cpS tb l s2, 0) :: Pl) = true := by
            rw [cmpd_app Q2 h2.1.2.1.1.2.2 q2]
            show (if 20 ≤ cpS tb l s2 ∧ cpS tb l s2 ≤ 24 then cmpd Pl else decide (25 ≤ cpS tb l s2 ∧ cpS tb l s2 ≤ 27)) = true
            rw [if_neg (by omega), decide_eq_true (by omega)]
          refine ⟨k + k2' + 1, MM2, Q2 ++ [(cpS tb l s2, 0)], mo2, ma2, nc2, (r1.trans r2).trans (rc_3 hS' h2.1.2.2 (m_bsTold hS' hn ec4 h2.1 hi hcm)), by omega, by rw [List.append_assoc]; exact h2, z1.trans z2, fun x hx => ?_, by rw [List.length_append, List.length_cons, List.length_nil]; omega, ?_⟩
          · rcases List.mem_append.mp hx with q | q
            · have := q2 x q; omega
            · rw [List.mem_singleton.mp q]; show 4 ≤ bnd (cpS tb l s2); omega
          · rw [flu_app]
            show cdOK ord mo ma nc (fl1 (cpS tb l s2, 0) (flu Q2 (mo2, ma2, nc2))) _ _
            rw [fl1_ar (show cpS tb l s2 < 29 by omega)]
            have := cd_bin (d := pt4 - pt) cd cd2 (op := 10 + sgT tb l s2 11) (by omega) (by omega) (by omega)
            rw [show 10 + sgT tb l s2 11 + 15 = cpS tb l s2 by omega] at this
            exact this
/-- a test in brackets -/
theorem sim_rnd (hS : ShOK S B) (hn : 1000 ≤ n) (hrc : dp < 8 → ∀ M s st len pt wm, CS M B ord tb l cl s st len pt wm → len ≤ s → Sim n E S B ord tb l cl 1 1 0 2 (dp + 1) s st len pt wm M (fun s' f => tst f ∧ wis tb l s' 1476 = false ∧ wis tb l s' 498 = false) (rc (B + 69, iI ((dp + 1 : Nat) : Int), M))) (hd : dp ≤ 8) (hC : CS M B ord tb l cl s st len pt wm) (hl : len ≤ s) (hq : kdT tb l s = 3 ∧ tb s = 40) : Sim n E S B ord tb l cl 4 1 0 2 dp s st len pt wm M (fun _ f => tst f) (F_Ps_readTestInBrackets n E S rc (B + 69) (iI (dp : Int)) M) := by
  have sb := nx_b (tb := tb) hC.1.2.1
  have sb2 := sb.2.2 (by omega)
  have hsl := kdT_l (tb := tb) (l := l) (s := s) (by omega)
  have hl4 := hC.1.1.1
  by_cases c : dp < 8
  · have op : ∀ (S' : zS), ShOK S' B → ∀ MM Pl mo ma nc, Pre MM B ord tb l s pt dp 4 2 Pl mo ma nc → ∃ MM1, Rc n E S' B 1 1 0 MM 0 MM1 ∧ zAg (psX B) MM MM1 ∧ Pre MM1 B ord tb l (nx tb l s) pt (dp + 1) 1 2 ((31, 0) :: Pl) mo ma nc := fun S' hS' MM Pl mo ma nc hp => by
      obtain ⟨hp1, hp2, hp3, hp4⟩ := hp
      obtain ⟨MM1, x1, y1, z1⟩ := m_plOpen (n := n) (E := E) hS' hn hp1.1 hq (by omega) c
      exact ⟨MM1, rc_0 hS' hp1.1.2.2 x1, z1, hp1.to y1 z1, Or.inr ⟨_, _, rfl, by decide⟩, fun _ => by show (31 : Int) ≠ 32; decide, by rw [List.length_cons]; omega⟩
    obtain ⟨M1, e1, g1, hA1⟩ := hC.adv (n := n) (E := E) hS hn
    rcases hrc c M1 (nx tb l s) st len pt wm g1 (by omega) with ⟨M2, s2, e2, hA2, p2, b2⟩ | ⟨M2, s2, st2, len2, pt2, wm2, f, e2, hA2, g2, oc, om, ec⟩
    · refine Or.inl ⟨M2, s2, ?_, hA1.trans hA2, p2, by have := b2.1; omega, b2.2.1, fun S' hS' MM Pl mo ma nc hp => ?_⟩
      · unfold F_Ps_readTestInBrackets
        rw [show (8 : Int32) = iI 8 by decide, if_pos (cltT (by omega) (by omega) (by omega)), hS.g69_1, obs, hS.ck67, obs, e1, obs, iL1, iI_add, show (dp : Int) + 1 = ((dp + 1 : Nat) : Int) by omega, e2, obs, if_neg Bool.false_ne_true]
      · obtain ⟨MM1, r1, z1, pr⟩ := op S' hS' MM Pl mo ma nc hp
        obtain ⟨k, t', MM2, r2, kk, bd, az⟩ := b2.2.2 S' hS' _ _ _ _ _ pr
        exact ⟨1 + k, t', MM2, r1.trans r2, by omega, bd, (toB z1).trans az⟩
    · have hi : ∀ (Q Pl : List (Int × Int)), (∀ x ∈ Q, 1 ≤ bnd x.1) → inn (Q ++ (31, 0) :: Pl) ≠ -1 := fun Q Pl hQ => by
        rw [inn_app Q hQ]
        show (31 : Int) ≠ -1
        decide
      by_cases d : kdT tb l s2 = 3 ∧ tb s2 = 41
      · obtain ⟨M3, e3, g3, hA3⟩ := g2.adv (n := n) (E := E) hS hn
        have tb2 := (nx_b (tb := tb) g2.1.2.1).2.2 (by omega)
        obtain ⟨c1, c2, c3, c4, c5, c6, c7⟩ := oc
        refine Or.inr ⟨M3, nx tb l s2, st2, len2, pt2, wm2, f, ?_, (hA1.trans hA2).trans hA3, g3, ⟨c1, c2, c3, c4, by omega, by omega, c7⟩, fun S' hS' MM Pl mo ma nc hp => ?_, ec.1⟩
        · unfold F_Ps_readTestInBrackets
          rw [show (8 : Int32) = iI 8 by decide, if_pos (cltT (by omega) (by omega) (by omega)), hS.g69_1, obs, hS.ck67, obs, e1, obs, iL1, iI_add, show (dp : Int) + 1 = ((dp + 1 : Nat) : Int) by omega, e2, obs, if_pos rfl, show (41 : Int32) = iI 41 by decide, s_atSign hS g2.1 (by omega) (by omega), obs, if_pos (decide_eq_true d), e3, obs]
        · obtain ⟨MM1, r1, z1, pr⟩ := op S' hS' MM Pl mo ma nc hp
          obtain ⟨k, MM2, Q, mo2, ma2, nc2, r2, kk, h2, z2, q2, b2, cd⟩ := om S' hS' _ _ _ _ _ pr
          have hs2l := g2.1.2.1
          have pr4 := pr.2.2.2
          rw [List.length_cons] at pr4
          obtain ⟨MM3, e4, g4, z4⟩ := m_btClose (n := n) (E := E) hS' hn h2.1 ec.2.1 ec.2.2 (hi Q Pl q2) d q2 (by omega)
          have fl := flu_len Q (mo2, ma2, nc2)
          dsimp only at fl
          exact ⟨1 + k + 1, MM3, [], _, _, _, (r1.trans r2).trans (rc_2 hS' h2.1.2.2 e4), by omega, h2.to g4 z4, (z1.trans z2).trans z4, fun x hx => absurd hx List.not_mem_nil, by rw [List.length_nil]; omega, cd⟩
      · refine Or.inl ⟨M2, s2, ?_, hA1.trans hA2, g2.1.2.2.2.1, by have := oc.2.2.2.2.2.1; omega, g2.1.2.1, fun S' hS' MM Pl mo ma nc hp => ?_⟩
        · unfold F_Ps_readTestInBrackets
          rw [show (8 : Int32) = iI 8 by decide, if_pos (cltT (by omega) (by omega) (by omega)), hS.g69_1, obs, hS.ck67, obs, e1, obs, iL1, iI_add, show (dp : Int) + 1 = ((dp + 1 : Nat) : Int) by omega, e2, obs, if_pos rfl, show (41 : Int32) = iI 41 by decide, s_atSign hS g2.1 (by omega) (by omega), obs, if_neg (fun z => d (of_decide_eq_true z))]
        · obtain ⟨MM1, r1, z1, pr⟩ := op S' hS' MM Pl mo ma nc hp
          obtain ⟨k, MM2, Q, mo2, ma2, nc2, r2, kk, h2, z2, q2, b2, cd⟩ := om S' hS' _ _ _ _ _ pr
          obtain ⟨MM3, e4, g4, z4⟩ := m_btClose0 (n := n) (E := E) hS' hn h2.1 (by have := g2.1.2.1; have pr4 := pr.2.2.2; rw [List.length_cons] at pr4; rw [List.length_append, List.length_cons]; omega) ec.2.1 ec.2.2 (hi Q Pl q2) d
          exact ⟨1 + k + 1, 2, MM3, (r1.trans r2).trans (rc_2 hS' h2.1.2.2 e4), by omega, g4, (toB (z1.trans z2)).trans z4⟩
  · have e8 : dp = 8 := by omega
    refine Or.inl ⟨M, s, ?_, zAg.rfl', hC.1.2.2.2.1, Nat.le_refl _, hC.1.2.1, fun S' hS' MM Pl mo ma nc hp => ?_⟩
    · unfold F_Ps_readTestInBrackets
      rw [show (8 : Int32) = iI 8 by decide, if_neg (cltF (by omega) (by omega) (by omega))]
    · have h1 := hp.1.1
      rw [e8] at h1
      obtain ⟨MM1, x1, y1, z1⟩ := m_plOpen0 (n := n) (E := E) hS' h1 (by have := hp.2.2.2; omega) hq
      exact ⟨1, 0, MM1, rc_0 hS' h1.2.2 x1, by omega, y1, z1⟩
/-- what stands behind the nots -/
def atomG (n : Nat) (E : zE) (S : zS) (rc : Nat × Int32 × zH → Option (Bool × zH)) (B : Nat) (x1 : Int32) (M : zH) : Option (Bool × zH) :=
  (F_Ta_atSign n E S (B + 67) (iI 40) M).bind fun q => if q.1 = true then F_Ps_readTestInBrackets n E S rc (B + 69) x1 q.2 else F_Ps_readComparison n E S (B + 69) x1 q.2
theorem sim_atom (hS : ShOK S B) (hn : 1000 ≤ n) (hrc : dp < 8 → ∀ M s st len pt wm, CS M B ord tb l cl s st len pt wm → len ≤ s → Sim n E S B ord tb l cl 1 1 0 2 (dp + 1) s st len pt wm M (fun s' f => tst f ∧ wis tb l s' 1476 = false ∧ wis tb l s' 498 = false) (rc (B + 69, iI ((dp + 1 : Nat) : Int), M))) (hd : dp ≤ 8) (hC : CS M B ord tb l cl s st len pt wm) (hl : len ≤ s) (hw : wis tb l s 14836 = false) : Sim n E S B ord tb l cl 4 1 0 2 dp s st len pt wm M (fun _ f => tst f) (atomG n E S rc B (iI (dp : Int)) M) := by
  unfold atomG
  rw [s_atSign hS hC.1 (by omega) (by omega), obs]
  by_cases hq : kdT tb l s = 3 ∧ tb s = 40
  · rw [if_pos (decide_eq_true hq)]
    exact sim_rnd hS hn hrc hd hC hl hq
  · rw [if_neg (fun z => hq (of_decide_eq_true z))]
    exact sim_cmp hS hn hd hC hl (Or.inr ⟨rfl, hw, hq⟩)
theorem b46_eq (hS : ShOK S B) {x1 x2 : Int32} : F_Ps_readPlain_b46 n E S rc (B + 69) x1 x2 M = (atomG n E S rc B x1 M).bind fun q => F_Ps_readPlain_b71 n E S rc (B + 69) x2 (bI q.1) q.2 := by
  unfold F_Ps_readPlain_b46 atomG
  rw [hS.g69_1, obs, hS.ck67, obs, show (40 : Int32) = iI 40 by decide]
  cases F_Ta_atSign n E S (B + 67) (iI 40) M with
  | none => rfl
  | some q =>
    rw [obs, obs]
    by_cases c : q.1 = true
    · rw [if_pos c, if_pos c]
    · rw [if_neg c, if_neg c]
/-- not .. not, and what stands behind -/
theorem lp_plain (hS : ShOK S B) (hn : 1000 ≤ n) (hat : ∀ M s st len pt wm, CS M B ord tb l cl s st len pt wm → len ≤ s → wis tb l s 14836 = false → Sim n E S B ord tb l cl 4 1 0 2 dp s st len pt wm M (fun _ f => tst f) (atomG n E S rc B (iI (dp : Int)) M)) (hl : len ≤ s0) : ∀ (r fuel : Nat) (M : zH) (s j : Nat), l - s ≤ r → r < fuel → CS M B ord tb l cl s st len pt wm → s0 + 2 * j ≤ s → zAg (clX B cl) M0 M → (∀ (S' : zS), ShOK S' B → ∀ MM Pl mo ma nc, Pre MM B ord tb l s0 pt dp 3 2 Pl mo ma nc → ∃ k MM1, Rc n E S' B 1 k 0 MM 0 MM1 ∧ k + 2 * s0 ≤ 2 * s ∧ MH MM1 B ord tb l s (nots j ++ Pl) mo ma nc pt dp ∧ zAg (psX B) MM MM1) → Sim n E S B ord tb l cl 3 1 0 2 dp s0 st len pt wm M0 (fun _ f => tst f) (zfix (fun r4 s => F_Ps_readPlain_L4 n E S rc r4 s.1 s.2.1 s.2.2.1 s.2.2.2.1 s.2.2.2.2) fuel (B + 69, iI (dp : Int), iI ((j % 2 : Nat) : Int), iI (j : Int), M)) := by
  intro r
  induction r with
  | zero =>
    intro fuel M s j hr hf hC hj hA om
    obtain ⟨fuel, rfl⟩ : ∃ f', fuel = f' + 1 := ⟨fuel - 1, by omega⟩
    have hsl := hC.1.2.1
    have hl4 := hC.1.1.1
    have k0 : kdT tb l s = 0 := by
      by_cases z : kdT tb l s = 0
      · exact z
      · have := kdT_l (tb := tb) (l := l) (s := s) z; omega
    have hw : wis tb l s 14836 = false := by unfold wis; rw [decide_eq_false (by omega)]
    have atp : ∀ (S' : zS), ShOK S' B → ∀ MM Pl mo ma nc, Pre MM B ord tb l s0 pt dp 3 2 Pl mo ma nc → ∃ k MM1, Rc n E S' B 1 k 0 MM 0 MM1 ∧ k + 2 * s0 ≤ 2 * s ∧ Pre MM1 B ord tb l s pt dp 4 2 (nots j ++ Pl) mo ma nc ∧ zAg (psX B) MM MM1 := fun S' hS' MM Pl mo ma nc hp => by
      obtain ⟨k, MM1, r1, kk, h1, z1⟩ := om S' hS' MM Pl mo ma nc hp
      obtain ⟨hp1, hp2, hp3, hp4⟩ := hp
      refine ⟨k, MM1, r1, kk, ⟨h1, ?_, fun q => ?_, by rw [List.length_append, nots_l]; omega⟩, z1⟩
      · cases j with
        | zero => exact hp2.lv (by decide)
        | succ j => exact Or.inr ⟨(28, 0), nots j ++ Pl, rfl, by decide⟩
      · rw [inn_app (nots j) (fun x hx => by have := nots_b x hx; omega)]; exact hp3 q
    have eq : zfix (fun r4 s => F_Ps_readPlain_L4 n E S rc r4 s.1 s.2.1 s.2.2.1 s.2.2.2.1 s.2.2.2.2) (fuel + 1) (B + 69, iI (dp : Int), iI ((j % 2 : Nat) : Int), iI (j : Int), M) = (atomG n E S rc B (iI (dp : Int)) M).bind fun q => F_Ps_readPlain_b71 n E S rc (B + 69) (iI ((j % 2 : Nat) : Int)) (bI q.1) q.2 := by
      have hwd : ¬ isWd tb l s 10 = true := by rw [(wd_all (tb := tb) hsl).2.2.2.2.1, hw]; decide
      show F_Ps_readPlain_L4 n E S rc (zfix (fun r4 s => F_Ps_readPlain_L4 n E S rc r4 s.1 s.2.1 s.2.2.1 s.2.2.2.1 s.2.2.2.2) fuel) (B + 69) (iI (dp : Int)) (iI ((j % 2 : Nat) : Int)) (iI (j : Int)) M = _
      generalize zfix (fun r4 s => F_Ps_readPlain_L4 n E S rc r4 s.1 s.2.1 s.2.2.1 s.2.2.2.1 s.2.2.2.2) fuel = rec
      unfold F_Ps_readPlain_L4
      rw [show (400 : Int32) = iI 400 by decide, if_neg (cleF (by omega) (by omega) (by omega)), hS.g69_1, obs, hS.ck67, obs, s_atWord hS hn hC.1 (by decide), obs, if_neg hwd, b46_eq hS]
    rw [eq]
    rcases hat M s st len pt wm hC (by omega) hw with ⟨M2, s2, e2, hA2, p2, b2⟩ | ⟨M2, s2, st2, len2, pt2, wm2, f, e2, hA2, g2, oc, om2, ec⟩
    · refine Or.inl ⟨M2, s2, ?_, hA.trans hA2, p2, by have := b2.1; omega, b2.2.1, fun S' hS' MM Pl mo ma nc hp => ?_⟩
      · rw [e2, obs]
        unfold F_Ps_readPlain_b71
        rw [if_pos (show bI false = 0 from rfl), show zbl (bI false) = some false from rfl, obs]
      · obtain ⟨k, MM1, r1, kk, pr, z1⟩ := atp S' hS' MM Pl mo ma nc hp
        obtain ⟨k2, t', MM2, r2, kk2, bd, z2⟩ := b2.2.2 S' hS' _ _ _ _ _ pr
        exact ⟨k + k2, t', MM2, r1.trans r2, by omega, bd, (toB z1).trans z2⟩
    · obtain ⟨c1, c2, c3, c4, c5, c6, c7⟩ := oc
      have hs2l := g2.1.2.1
      have i1 := c2.1
      have omF : OkM n E S B ord tb l 3 1 0 2 dp s0 pt s2 pt2 (ntI j f) := fun S' hS' MM Pl mo ma nc hp => by
        obtain ⟨k, MM1, r1, kk, pr, z1⟩ := atp S' hS' MM Pl mo ma nc hp
        obtain ⟨k2, MM2, Q2, mo2, ma2, nc2, r2, kk2, h2, z2, q2, b2, cd2⟩ := om2 S' hS' _ _ _ _ _ pr
        refine ⟨k + k2, MM2, Q2 ++ nots j, mo2, ma2, nc2, r1.trans r2, by omega, by rw [List.append_assoc]; exact h2, z1.trans z2, fun x hx => ?_, by rw [List.length_append, nots_l]; omega, ?_⟩
        · rcases List.mem_append.mp hx with q | q
          · have := q2 x q; omega
          · exact nots_b x q
        · rw [flu_app]
          exact cd_nots j _ f cd2 ec
      by_cases c : j % 2 = 0
      · have ef : ntI j f = f := by unfold ntI; rw [if_pos c]
        rw [ef] at omF
        refine Or.inr ⟨M2, s2, st2, len2, pt2, wm2, f, ?_, hA.trans hA2, g2, ⟨c1, c2, c3, c4, by omega, by omega, c7⟩, omF, ec⟩
        rw [e2, obs]
        unfold F_Ps_readPlain_b71
        rw [if_neg (show ¬ bI true = 0 by decide), c, if_pos (show iI ((0 : Nat) : Int) = 0 from rfl), show zbl (bI true) = some true from rfl, obs]
      · have ef : ntI j f = ntF f := by unfold ntI; rw [if_neg c]
        rw [ef] at omF
        obtain ⟨M3, e3, g3, hA3⟩ := g2.add (n := n) (E := E) hS (by omega) (o := 2) (v := 0) (by omega) (by omega)
        refine Or.inr ⟨M3, s2, _, _, _, _, ntF f, ?_, (hA.trans hA2).trans hA3, g3, ⟨fun p hp => ?_, ?_, c3.nt, c4, by omega, by omega, c7⟩, omF, ec.nt⟩
        · rw [e2, obs]
          unfold F_Ps_readPlain_b71
          rw [if_neg (show ¬ bI true = 0 by decide), show j % 2 = 1 by omega, if_neg (show ¬ iI ((1 : Nat) : Int) = 0 by decide), hS.g69_0, obs, hS.ck70, obs, show (2 : Int32) = iI 2 by decide, iL0, e3, obs, show zbl (bI true) = some true from rfl, obs]
        · rw [upF_n (by omega)]; exact c1 p hp
        · refine sgC.not (c2.cg (fun p p1 p2 => upF_n (by omega))) (by rw [upF_s]; decide)
  | succ r ih =>
    intro fuel M s j hr hf hC hj hA om
    obtain ⟨fuel, rfl⟩ : ∃ f', fuel = f' + 1 := ⟨fuel - 1, by omega⟩
    have hsl := hC.1.2.1
    have hl4 := hC.1.1.1
    cases hw : wis tb l s 14836
    · have atp : ∀ (S' : zS), ShOK S' B → ∀ MM Pl mo ma nc, Pre MM B ord tb l s0 pt dp 3 2 Pl mo ma nc → ∃ k MM1, Rc n E S' B 1 k 0 MM 0 MM1 ∧ k + 2 * s0 ≤ 2 * s ∧ Pre MM1 B ord tb l s pt dp 4 2 (nots j ++ Pl) mo ma nc ∧ zAg (psX B) MM MM1 := fun S' hS' MM Pl mo ma nc hp => by
        obtain ⟨k, MM1, r1, kk, h1, z1⟩ := om S' hS' MM Pl mo ma nc hp
        obtain ⟨hp1, hp2, hp3, hp4⟩ := hp
        refine ⟨k, MM1, r1, kk, ⟨h1, ?_, fun q => ?_, by rw [List.length_append, nots_l]; omega⟩, z1⟩
        · cases j with
          | zero => exact hp2.lv (by decide)
          | succ j => exact Or.inr ⟨(28, 0), nots j ++ Pl, rfl, by decide⟩
        · rw [inn_app (nots j) (fun x hx => by have := nots_b x hx; omega)]; exact hp3 q
      have eq : zfix (fun r4 s => F_Ps_readPlain_L4 n E S rc r4 s.1 s.2.1 s.2.2.1 s.2.2.2.1 s.2.2.2.2) (fuel + 1) (B + 69, iI (dp : Int), iI ((j % 2 : Nat) : Int), iI (j : Int), M) = (atomG n E S rc B (iI (dp : Int)) M).bind fun q => F_Ps_readPlain_b71 n E S rc (B + 69) (iI ((j % 2 : Nat) : Int)) (bI q.1) q.2 := by
        have hwd : ¬ isWd tb l s 10 = true := by rw [(wd_all (tb := tb) hsl).2.2.2.2.1, hw]; decide
        show F_Ps_readPlain_L4 n E S rc (zfix (fun r4 s => F_Ps_readPlain_L4 n E S rc r4 s.1 s.2.1 s.2.2.1 s.2.2.2.1 s.2.2.2.2) fuel) (B + 69) (iI (dp : Int)) (iI ((j % 2 : Nat) : Int)) (iI (j : Int)) M = _
        generalize zfix (fun r4 s => F_Ps_readPlain_L4 n E S rc r4 s.1 s.2.1 s.2.2.1 s.2.2.2.1 s.2.2.2.2) fuel = rec
        unfold F_Ps_readPlain_L4
        rw [show (400 : Int32) = iI 400 by decide, if_neg (cleF (by omega) (by omega) (by omega)), hS.g69_1, obs, hS.ck67, obs, s_atWord hS hn hC.1 (by decide), obs, if_neg hwd, b46_eq hS]
      rw [eq]
      rcases hat M s st len pt wm hC (by omega) hw with ⟨M2, s2, e2, hA2, p2, b2⟩ | ⟨M2, s2, st2, len2, pt2, wm2, f, e2, hA2, g2, oc, om2, ec⟩
      · refine Or.inl ⟨M2, s2, ?_, hA.trans hA2, p2, by have := b2.1; omega, b2.2.1, fun S' hS' MM Pl mo ma nc hp => ?_⟩
        · rw [e2, obs]
          unfold F_Ps_readPlain_b71
          rw [if_pos (show bI false = 0 from rfl), show zbl (bI false) = some false from rfl, obs]
        · obtain ⟨k, MM1, r1, kk, pr, z1⟩ := atp S' hS' MM Pl mo ma nc hp
          obtain ⟨k2, t', MM2, r2, kk2, bd, z2⟩ := b2.2.2 S' hS' _ _ _ _ _ pr
          exact ⟨k + k2, t', MM2, r1.trans r2, by omega, bd, (toB z1).trans z2⟩
      · obtain ⟨c1, c2, c3, c4, c5, c6, c7⟩ := oc
        have hs2l := g2.1.2.1
        have i1 := c2.1
        have omF : OkM n E S B ord tb l 3 1 0 2 dp s0 pt s2 pt2 (ntI j f) := fun S' hS' MM Pl mo ma nc hp => by
          obtain ⟨k, MM1, r1, kk, pr, z1⟩ := atp S' hS' MM Pl mo ma nc hp
          obtain ⟨k2, MM2, Q2, mo2, ma2, nc2, r2, kk2, h2, z2, q2, b2, cd2⟩ := om2 S' hS' _ _ _ _ _ pr
          refine ⟨k + k2, MM2, Q2 ++ nots j, mo2, ma2, nc2, r1.trans r2, by omega, by rw [List.append_assoc]; exact h2, z1.trans z2, fun x hx => ?_, by rw [List.length_append, nots_l]; omega, ?_⟩
          · rcases List.mem_append.mp hx with q | q
            · have := q2 x q; omega
            · exact nots_b x q
          · rw [flu_app]
            exact cd_nots j _ f cd2 ec
        by_cases c : j % 2 = 0
        · have ef : ntI j f = f := by unfold ntI; rw [if_pos c]
          rw [ef] at omF
          refine Or.inr ⟨M2, s2, st2, len2, pt2, wm2, f, ?_, hA.trans hA2, g2, ⟨c1, c2, c3, c4, by omega, by omega, c7⟩, omF, ec⟩
          rw [e2, obs]
          unfold F_Ps_readPlain_b71
          rw [if_neg (show ¬ bI true = 0 by decide), c, if_pos (show iI ((0 : Nat) : Int) = 0 from rfl), show zbl (bI true) = some true from rfl, obs]
        · have ef : ntI j f = ntF f := by unfold ntI; rw [if_neg c]
          rw [ef] at omF
          obtain ⟨M3, e3, g3, hA3⟩ := g2.add (n := n) (E := E) hS (by omega) (o := 2) (v := 0) (by omega) (by omega)
          refine Or.inr ⟨M3, s2, _, _, _, _, ntF f, ?_, (hA.trans hA2).trans hA3, g3, ⟨fun p hp => ?_, ?_, c3.nt, c4, by omega, by omega, c7⟩, omF, ec.nt⟩
          · rw [e2, obs]
            unfold F_Ps_readPlain_b71
            rw [if_neg (show ¬ bI true = 0 by decide), show j % 2 = 1 by omega, if_neg (show ¬ iI ((1 : Nat) : Int) = 0 by decide), hS.g69_0, obs, hS.ck70, obs, show (2 : Int32) = iI 2 by decide, iL0, e3, obs, show zbl (bI true) = some true from rfl, obs]
          · rw [upF_n (by omega)]; exact c1 p hp
          · refine sgC.not (c2.cg (fun p p1 p2 => upF_n (by omega))) (by rw [upF_s]; decide)
    · have hwd : isWd tb l s 10 = true := by rw [(wd_all (tb := tb) hsl).2.2.2.2.1]; exact hw
      have sb2 := nx_2 hsl hwd (by decide)
      have sb := nx_b (tb := tb) hsl
      obtain ⟨M1, e1, g1, hA1⟩ := hC.adv (n := n) (E := E) hS hn
      have fin := ih fuel M1 (nx tb l s) (j + 1) (by omega) (by omega) g1 (by omega) (hA.trans hA1) (fun S' hS' MM Pl mo ma nc hp => by
        obtain ⟨k, MM1, r1, kk, h1, z1⟩ := om S' hS' MM Pl mo ma nc hp
        obtain ⟨hp1, hp2, hp3, hp4⟩ := hp
        obtain ⟨MM2, e2, g2, z2⟩ := m_plNot (n := n) (E := E) hS' hn h1.1 hw (by rw [List.length_append, nots_l]; omega)
        exact ⟨k + 1, MM2, r1.trans (rc_0 hS' h1.1.2.2 e2), by omega, h1.to g2 z2, z1.trans z2⟩)
      have eq : zfix (fun r4 s => F_Ps_readPlain_L4 n E S rc r4 s.1 s.2.1 s.2.2.1 s.2.2.2.1 s.2.2.2.2) (fuel + 1) (B + 69, iI (dp : Int), iI ((j % 2 : Nat) : Int), iI (j : Int), M) = zfix (fun r4 s => F_Ps_readPlain_L4 n E S rc r4 s.1 s.2.1 s.2.2.1 s.2.2.2.1 s.2.2.2.2) fuel (B + 69, iI (dp : Int), iI (((j + 1) % 2 : Nat) : Int), iI ((j + 1 : Nat) : Int), M1) := by
        show F_Ps_readPlain_L4 n E S rc (zfix (fun r4 s => F_Ps_readPlain_L4 n E S rc r4 s.1 s.2.1 s.2.2.1 s.2.2.2.1 s.2.2.2.2) fuel) (B + 69) (iI (dp : Int)) (iI ((j % 2 : Nat) : Int)) (iI (j : Int)) M = _
        generalize zfix (fun r4 s => F_Ps_readPlain_L4 n E S rc r4 s.1 s.2.1 s.2.2.1 s.2.2.2.1 s.2.2.2.2) fuel = rec
        unfold F_Ps_readPlain_L4 F_Ps_readPlain_b39
        rw [show (400 : Int32) = iI 400 by decide, if_neg (cleF (by omega) (by omega) (by omega)), hS.g69_1, obs, hS.ck67, obs, s_atWord hS hn hC.1 (by decide), obs, if_pos hwd, e1, obs, iL0, iL1, iI_add]
        by_cases c : j % 2 = 0
        · rw [c, show (j + 1) % 2 = 1 by omega, if_pos (show iI ((0 : Nat) : Int) = iI 0 from rfl)]; rfl
        · rw [show j % 2 = 1 by omega, show (j + 1) % 2 = 0 by omega, if_neg (show ¬ iI ((1 : Nat) : Int) = iI 0 by decide)]; rfl
      rw [eq]
      exact fin
theorem sim_Plain (hS : ShOK S B) (hn : 1000 ≤ n) (hrc : dp < 8 → ∀ M s st len pt wm, CS M B ord tb l cl s st len pt wm → len ≤ s → Sim n E S B ord tb l cl 1 1 0 2 (dp + 1) s st len pt wm M (fun s' f => tst f ∧ wis tb l s' 1476 = false ∧ wis tb l s' 498 = false) (rc (B + 69, iI ((dp + 1 : Nat) : Int), M))) (hd : dp ≤ 8) (hC : CS M B ord tb l cl s st len pt wm) (hl : len ≤ s) : Sim n E S B ord tb l cl 3 1 0 2 dp s st len pt wm M (fun _ f => tst f) (F_Ps_readPlain n E S rc (B + 69) (iI (dp : Int)) M) := by
  have hl4 := hC.1.1.1
  exact lp_plain (M0 := M) hS hn (fun M s st len pt wm hC hl hw => sim_atom hS hn hrc hd hC hl hw) hl (l - s) n M s 0 (Nat.le_refl _) (by omega) hC (by omega) zAg.rfl' (fun S' hS' MM Pl mo ma nc hp => ⟨0, MM, Rc.rfl', by omega, hp.1, zAg.rfl'⟩)
/-- further ones of a Both -/
theorem lp_Both (hS : ShOK S B) (hn : 1000 ≤ n) (hin : ∀ M s st len pt wm, CS M B ord tb l cl s st len pt wm → len ≤ s → Sim n E S B ord tb l cl 3 1 0 2 dp s st len pt wm M (fun s' f => tst f) (F_Ps_readPlain n E S rc (B + 69) (iI (dp : Int)) M)) : ∀ (r fuel : Nat) (M : zH) (s : Nat) (st : Nat → Int) (len pt wm x2 : Nat) (f : (Nat → Int) → Option Int), l - s ≤ r → r < fuel → CS M B ord tb l cl s st len pt wm → x2 < s → len ≤ s → zAg (clX B cl) M0 M → OkC ord st0 len0 pt0 wm0 s0 st len pt wm s f → OkM n E S B ord tb l 2 1 0 2 dp s0 pt0 s pt f → (∀ s', s' = s → tst f) → Sim n E S B ord tb l cl 2 1 0 2 dp s0 st0 len0 pt0 wm0 M0 (fun s' f => tst f ∧ wis tb l s' 1476 = false) (zfix (fun r12 s => F_Ps_readBoth_L12 n E S rc r12 s.1 s.2.1 s.2.2.1 s.2.2.2) fuel (B + 69, iI (dp : Int), iI (x2 : Int), M)) := by
  intro r
  induction r with
  | zero =>
    intro fuel M s st len pt wm x2 f hr hf hC hx hl hA oc om ei
    obtain ⟨fuel, rfl⟩ : ∃ f', fuel = f' + 1 := ⟨fuel - 1, by omega⟩
    have hsl := hC.1.2.1
    have hl4 := hC.1.1.1
    have k0 : kdT tb l s = 0 := by
      by_cases z : kdT tb l s = 0
      · exact z
      · have := kdT_l (tb := tb) (l := l) (s := s) z; omega
    have hw : wis tb l s 1476 = false := by unfold wis; rw [decide_eq_false (by omega)]
    have hwd : ¬ isWd tb l s 12 = true := by rw [(wd_all (tb := tb) hsl).2.2.2.2.2.1, hw]; decide
    refine Or.inr ⟨M, s, st, len, pt, wm, f, ?_, hA, hC, oc, om, ei s rfl, hw⟩
    show F_Ps_readBoth_L12 n E S rc _ (B + 69) (iI (dp : Int)) (iI (x2 : Int)) M = _
    generalize zfix (fun r12 s => F_Ps_readBoth_L12 n E S rc r12 s.1 s.2.1 s.2.2.1 s.2.2.2) fuel = rec
    unfold F_Ps_readBoth_L12
    rw [show (400 : Int32) = iI 400 by decide, if_neg (cleF (by omega) (by omega) (by omega)), hS.g69_1, obs, hS.ck67, obs, s_atWord hS hn hC.1 (by decide), obs, if_neg hwd]
  | succ r ih =>
    intro fuel M s st len pt wm x2 f hr hf hC hx hl hA oc om ei
    obtain ⟨fuel, rfl⟩ : ∃ f', fuel = f' + 1 := ⟨fuel - 1, by omega⟩
    have hsl := hC.1.2.1
    have hl4 := hC.1.1.1
    show Sim n E S B ord tb l cl 2 1 0 2 dp s0 st0 len0 pt0 wm0 M0 (fun s' f => tst f ∧ wis tb l s' 1476 = false) (F_Ps_readBoth_L12 n E S rc (zfix (fun r12 s => F_Ps_readBoth_L12 n E S rc r12 s.1 s.2.1 s.2.2.1 s.2.2.2) fuel) (B + 69) (iI (dp : Int)) (iI (x2 : Int)) M)
    cases hw : wis tb l s 1476
    · have hwd : ¬ isWd tb l s 12 = true := by rw [(wd_all (tb := tb) hsl).2.2.2.2.2.1, hw]; decide
      refine Or.inr ⟨M, s, st, len, pt, wm, f, ?_, hA, hC, oc, om, ei s rfl, hw⟩
      generalize zfix (fun r12 s => F_Ps_readBoth_L12 n E S rc r12 s.1 s.2.1 s.2.2.1 s.2.2.2) fuel = rec
      unfold F_Ps_readBoth_L12
      rw [show (400 : Int32) = iI 400 by decide, if_neg (cleF (by omega) (by omega) (by omega)), hS.g69_1, obs, hS.ck67, obs, s_atWord hS hn hC.1 (by decide), obs, if_neg hwd]
    · have hwd : isWd tb l s 12 = true := by rw [(wd_all (tb := tb) hsl).2.2.2.2.2.1]; exact hw
      have k1 : kdT tb l s = 1 := by unfold wis at hw; exact (of_decide_eq_true hw).1
      have hs1 := kdT_l (tb := tb) (l := l) (s := s) (by omega)
      have sb := nx_b (tb := tb) hsl
      have sb2 := nx_2 hsl hwd (by decide)
      obtain ⟨M1, e1, g1, hA1⟩ := hC.adv (n := n) (E := E) hS hn
      obtain ⟨M2, e2, g2, hA2⟩ := g1.add (n := n) (E := E) hS (by omega) (o := 3) (v := 0) (by omega) (by omega)
      have mod : ∀ (S' : zS), ShOK S' B → ∀ MM Pl mo ma nc, Pre MM B ord tb l s0 pt0 dp 2 2 Pl mo ma nc → ∃ k MM1 Q mo1 ma1 nc1, Rc n E S' B 1 k 0 MM 0 MM1 ∧ k + 2 * s0 ≤ 2 * nx tb l s ∧ Pre MM1 B ord tb l (nx tb l s) pt dp 3 2 ((29, ((flu Q (mo1, ma1, nc1)).2.2 : Int)) :: Pl) (upF (flu Q (mo1, ma1, nc1)).1 (flu Q (mo1, ma1, nc1)).2.2 29) (upF (flu Q (mo1, ma1, nc1)).2.1 (flu Q (mo1, ma1, nc1)).2.2 0) ((flu Q (mo1, ma1, nc1)).2.2 + 1) ∧ zAg (psX B) MM MM1 ∧ (flu Q (mo1, ma1, nc1)).2.2 + s0 ≤ nc + s ∧ cdOK ord mo ma nc (flu Q (mo1, ma1, nc1)) (pt - pt0) f := fun S' hS' MM Pl mo ma nc hp => by
        obtain ⟨k, MM1, Q, mo1, ma1, nc1, r1, kk, h1, z1, q1, b1, cd⟩ := om S' hS' MM Pl mo ma nc hp
        obtain ⟨hp1, hp2, hp3, hp4⟩ := hp
        have hss := oc.2.2.2.2.2.1
        have fl := flu_len Q (mo1, ma1, nc1)
        dsimp only at fl
        obtain ⟨MM2, e2, g2, z2⟩ := m_btAnd (n := n) (E := E) hS' hn (P := Pl) (Q := Q) hw hp2 h1.1 q1 (by omega) (by omega) (by omega)
        refine ⟨k + 1, MM2, Q, mo1, ma1, nc1, r1.trans (rc_2 hS' h1.1.2.2 e2), by omega, ⟨h1.to g2 z2, Or.inr ⟨_, _, rfl, by show bnd 29 < 3; decide⟩, fun q => ?_, by rw [List.length_cons]; omega⟩, z1.trans z2, by omega, cd⟩
        show (if (31 : Int) ≤ 29 then (29 : Int) else inn Pl) ≠ 32
        rw [if_neg (by decide)]
        exact hp3 rfl
      rcases hin M2 (nx tb l s) _ (len + 1) pt wm g2 (by omega) with ⟨M3, s3, e3, hA3, p3, b3⟩ | ⟨M3, s3, st3, len3, pt3, wm3, g, e3, hA3, g3, oc3, om3, ec3⟩
      · refine Or.inl ⟨M3, s3, ?_, ((hA.trans hA1).trans hA2).trans hA3, p3, by have := b3.1; have := oc.2.2.2.2.2.1; omega, b3.2.1, fun S' hS' MM Pl mo ma nc hp => ?_⟩
        · generalize zfix (fun r12 s => F_Ps_readBoth_L12 n E S rc r12 s.1 s.2.1 s.2.2.1 s.2.2.2) fuel = rec
          unfold F_Ps_readBoth_L12
          rw [show (400 : Int32) = iI 400 by decide, if_neg (cleF (by omega) (by omega) (by omega)), hS.g69_1, obs, hS.ck67, obs, s_atWord hS hn hC.1 (by decide), obs, if_pos hwd, e1, obs, hS.g69_0, obs, hS.ck70, obs, show (3 : Int32) = iI 3 by decide, iL0, e2, obs, e3, obs, if_neg Bool.false_ne_true]
        · obtain ⟨k, MM1, Q, mo1, ma1, nc1, r1, kk, pr, z1, nn, cd⟩ := mod S' hS' MM Pl mo ma nc hp
          obtain ⟨k2, t', MM2, r2, kk2, bd, z2⟩ := b3.2.2 S' hS' _ _ _ _ _ pr
          exact ⟨k + k2, t', MM2, r1.trans r2, by omega, bd, (toB z1).trans z2⟩
      · obtain ⟨d1, d2, d3, d4, d5, d6, d7⟩ := oc3
        obtain ⟨c1, c2, c3, c4, c5, c6, c7⟩ := oc
        have hs3l := g3.1.2.1
        have i1 := c2.1
        have i2 := d2.1
        have pt5 := g3.2.1.2.2
        have e16 := d1 len (by omega)
        rw [upF_s] at e16
        obtain ⟨M4, e4, g4, hA4⟩ := g3.leap (n := n) (E := E) hS (p := len) (by omega)
        have oc4 : OkC ord st0 len0 pt0 wm0 s0 (upF st3 len (st3 len % 16 + 16 * (len3 : Int))) len3 pt3 wm3 s3 (anF 0 f g) := by
          refine ⟨fun p hp => ?_, ?_, (c3.up d4).an d3, c4.trans d4, by omega, by omega, by omega⟩
          · rw [upF_n (by omega), d1 p (by omega), upF_n (by omega)]; exact c1 p hp
          · refine (sgC.and (c2.cg (fun p p1 p2 => ?_)) (d2.cg (fun p p1 p2 => ?_)) (by rw [upF_s, e16]; omega) (by rw [upF_s, e16]; omega)).up (by omega)
            · rw [upF_n (by omega), d1 p (by omega)]; exact upF_n (by omega)
            · exact upF_n (by omega)
        have om4 : OkM n E S B ord tb l 2 1 0 2 dp s0 pt0 s3 pt3 (anF 0 f g) := fun S' hS' MM Pl mo ma nc hp => by
          obtain ⟨k, MM1, Q, mo1, ma1, nc1, r1, kk, pr, z1, nn, cd⟩ := mod S' hS' MM Pl mo ma nc hp
          obtain ⟨k2, MM2, Q2, mo2, ma2, nc2, r2, kk2, h2, z2, q2, b2, cd2⟩ := om3 S' hS' _ _ _ _ _ pr
          have pr4 := pr.2.2.2
          rw [List.length_cons] at pr4
          have fl := flu_len Q2 (mo2, ma2, nc2)
          dsimp only at fl
          refine ⟨k + k2, MM2, Q2 ++ [(29, ((flu Q (mo1, ma1, nc1)).2.2 : Int))], mo2, ma2, nc2, r1.trans r2, by omega, by rw [List.append_assoc]; exact h2, z1.trans z2, fun x hx => ?_, by rw [List.length_append, List.length_cons, List.length_nil]; omega, ?_⟩
          · rcases List.mem_append.mp hx with q | q
            · have := q2 x q; omega
            · rw [List.mem_singleton.mp q]; show 2 ≤ bnd 29; decide
          · rw [flu_app]
            show cdOK ord mo ma nc (fl1 (29, ((flu Q (mo1, ma1, nc1)).2.2 : Int)) (flu Q2 (mo2, ma2, nc2))) _ _
            have := cd_lp (d := pt3 - pt0) cd cd2 (Or.inl ⟨rfl, rfl⟩) (by omega) (by omega)
            unfold fl1
            rw [if_pos (Or.inl rfl)]
            dsimp only
            rw [Int.toNat_natCast]
            exact this
        have fin := ih fuel M4 s3 _ len3 pt3 wm3 (x2 + 1) _ (by omega) (by omega) g4 (by omega) (by omega) ((((hA.trans hA1).trans hA2).trans hA3).trans hA4) oc4 om4 (fun s' e => by subst e; exact (ei s rfl).an ec3)
        have eq : F_Ps_readBoth_L12 n E S rc (zfix (fun r12 s => F_Ps_readBoth_L12 n E S rc r12 s.1 s.2.1 s.2.2.1 s.2.2.2) fuel) (B + 69) (iI (dp : Int)) (iI (x2 : Int)) M = zfix (fun r12 s => F_Ps_readBoth_L12 n E S rc r12 s.1 s.2.1 s.2.2.1 s.2.2.2) fuel (B + 69, iI (dp : Int), iI ((x2 + 1 : Nat) : Int), M4) := by
          generalize zfix (fun r12 s => F_Ps_readBoth_L12 n E S rc r12 s.1 s.2.1 s.2.2.1 s.2.2.2) fuel = rec
          unfold F_Ps_readBoth_L12
          rw [show (400 : Int32) = iI 400 by decide, if_neg (cleF (by omega) (by omega) (by omega)), hS.g69_1, obs, hS.ck67, obs, s_atWord hS hn hC.1 (by decide), obs, if_pos hwd, e1, obs, hS.g69_0, obs, hS.ck70, obs, show (3 : Int32) = iI 3 by decide, iL0, e2, obs, e3, obs, if_pos rfl, e4, obs, iL1, iI_add]
          rfl
        rw [eq]
        exact fin
theorem sim_Both (hS : ShOK S B) (hn : 1000 ≤ n) (hrc : dp < 8 → ∀ M s st len pt wm, CS M B ord tb l cl s st len pt wm → len ≤ s → Sim n E S B ord tb l cl 1 1 0 2 (dp + 1) s st len pt wm M (fun s' f => tst f ∧ wis tb l s' 1476 = false ∧ wis tb l s' 498 = false) (rc (B + 69, iI ((dp + 1 : Nat) : Int), M))) (hd : dp ≤ 8) (hC : CS M B ord tb l cl s st len pt wm) (hl : len ≤ s) : Sim n E S B ord tb l cl 2 1 0 2 dp s st len pt wm M (fun s' f => tst f ∧ wis tb l s' 1476 = false) (F_Ps_readBoth n E S rc (B + 69) (iI (dp : Int)) M) := by
  have hl4 := hC.1.1.1
  rcases sim_Plain hS hn hrc hd hC hl with ⟨M2, s2, e2, hA2, p2, b2⟩ | ⟨M2, s2, st2, len2, pt2, wm2, g, e2, hA2, g2, oc2, om2, ec2⟩
  · refine Or.inl ⟨M2, s2, ?_, hA2, p2, b2.lv (by decide)⟩
    unfold F_Ps_readBoth
    rw [hS.ck69, obs, e2, obs, if_neg Bool.false_ne_true]
  · have hs2l := g2.1.2.1
    have := lp_Both (M0 := M) (st0 := st) (len0 := len) (pt0 := pt) (wm0 := wm) (s0 := s) hS hn (fun M s st len pt wm hC hl => sim_Plain hS hn hrc hd hC hl) (l - s2) n M2 s2 st2 len2 pt2 wm2 0 g (Nat.le_refl _) (by omega) g2 (by have := oc2.2.2.2.2.2.1; omega) (by have := oc2.2.2.2.2.1; omega) hA2 oc2 (om2.lv (by decide)) (fun s' e => by subst e; exact ec2)
    have eq : F_Ps_readBoth n E S rc (B + 69) (iI (dp : Int)) M = zfix (fun r12 s => F_Ps_readBoth_L12 n E S rc r12 s.1 s.2.1 s.2.2.1 s.2.2.2) n (B + 69, iI (dp : Int), iI ((0 : Nat) : Int), M2) := by
      unfold F_Ps_readBoth F_Ps_readBoth_b12
      rw [hS.ck69, obs, e2, obs, if_pos rfl]
      rfl
    rw [eq]
    exact this
/-- further ones of a Test -/
theorem lp_Test (hS : ShOK S B) (hn : 1000 ≤ n) (hin : ∀ M s st len pt wm, CS M B ord tb l cl s st len pt wm → len ≤ s → Sim n E S B ord tb l cl 2 1 0 2 dp s st len pt wm M (fun s' f => tst f ∧ wis tb l s' 1476 = false) (F_Ps_readBoth n E S rc (B + 69) (iI (dp : Int)) M)) : ∀ (r fuel : Nat) (M : zH) (s : Nat) (st : Nat → Int) (len pt wm x2 : Nat) (f : (Nat → Int) → Option Int), l - s ≤ r → r < fuel → CS M B ord tb l cl s st len pt wm → x2 < s → len ≤ s → zAg (clX B cl) M0 M → OkC ord st0 len0 pt0 wm0 s0 st len pt wm s f → OkM n E S B ord tb l 1 1 0 2 dp s0 pt0 s pt f → (∀ s', s' = s → tst f ∧ wis tb l s' 1476 = false) → Sim n E S B ord tb l cl 1 1 0 2 dp s0 st0 len0 pt0 wm0 M0 (fun s' f => tst f ∧ wis tb l s' 1476 = false ∧ wis tb l s' 498 = false) (zfix (fun r12 s => F_Ps_readTest_L12 n E S rc r12 s.1 s.2.1 s.2.2.1 s.2.2.2) fuel (B + 69, iI (dp : Int), iI (x2 : Int), M)) := by
  intro r
  induction r with
  | zero =>
    intro fuel M s st len pt wm x2 f hr hf hC hx hl hA oc om ei
    obtain ⟨fuel, rfl⟩ : ∃ f', fuel = f' + 1 := ⟨fuel - 1, by omega⟩
    have hsl := hC.1.2.1
    have hl4 := hC.1.1.1
    have k0 : kdT tb l s = 0 := by
      by_cases z : kdT tb l s = 0
      · exact z
      · have := kdT_l (tb := tb) (l := l) (s := s) z; omega
    have hw : wis tb l s 498 = false := by unfold wis; rw [decide_eq_false (by omega)]
    have hwd : ¬ isWd tb l s 13 = true := by rw [(wd_all (tb := tb) hsl).2.2.2.2.2.2, hw]; decide
    refine Or.inr ⟨M, s, st, len, pt, wm, f, ?_, hA, hC, oc, om, (ei s rfl).1, (ei s rfl).2, hw⟩
    show F_Ps_readTest_L12 n E S rc _ (B + 69) (iI (dp : Int)) (iI (x2 : Int)) M = _
    generalize zfix (fun r12 s => F_Ps_readTest_L12 n E S rc r12 s.1 s.2.1 s.2.2.1 s.2.2.2) fuel = rec
    unfold F_Ps_readTest_L12
    rw [show (400 : Int32) = iI 400 by decide, if_neg (cleF (by omega) (by omega) (by omega)), hS.g69_1, obs, hS.ck67, obs, s_atWord hS hn hC.1 (by decide), obs, if_neg hwd]
  | succ r ih =>
    intro fuel M s st len pt wm x2 f hr hf hC hx hl hA oc om ei
    obtain ⟨fuel, rfl⟩ : ∃ f', fuel = f' + 1 := ⟨fuel - 1, by omega⟩
    have hsl := hC.1.2.1
    have hl4 := hC.1.1.1
    show Sim n E S B ord tb l cl 1 1 0 2 dp s0 st0 len0 pt0 wm0 M0 (fun s' f => tst f ∧ wis tb l s' 1476 = false ∧ wis tb l s' 498 = false) (F_Ps_readTest_L12 n E S rc (zfix (fun r12 s => F_Ps_readTest_L12 n E S rc r12 s.1 s.2.1 s.2.2.1 s.2.2.2) fuel) (B + 69) (iI (dp : Int)) (iI (x2 : Int)) M)
    cases hw : wis tb l s 498
    · have hwd : ¬ isWd tb l s 13 = true := by rw [(wd_all (tb := tb) hsl).2.2.2.2.2.2, hw]; decide
      refine Or.inr ⟨M, s, st, len, pt, wm, f, ?_, hA, hC, oc, om, (ei s rfl).1, (ei s rfl).2, hw⟩
      generalize zfix (fun r12 s => F_Ps_readTest_L12 n E S rc r12 s.1 s.2.1 s.2.2.1 s.2.2.2) fuel = rec
      unfold F_Ps_readTest_L12
      rw [show (400 : Int32) = iI 400 by decide, if_neg (cleF (by omega) (by omega) (by omega)), hS.g69_1, obs, hS.ck67, obs, s_atWord hS hn hC.1 (by decide), obs, if_neg hwd]
    · have hwd : isWd tb l s 13 = true := by rw [(wd_all (tb := tb) hsl).2.2.2.2.2.2]; exact hw
      have k1 : kdT tb l s = 1 := by unfold wis at hw; exact (of_decide_eq_true hw).1
      have hs1 := kdT_l (tb := tb) (l := l) (s := s) (by omega)
      have sb := nx_b (tb := tb) hsl
      have sb2 := nx_2 hsl hwd (by decide)
      obtain ⟨M1, e1, g1, hA1⟩ := hC.adv (n := n) (E := E) hS hn
      obtain ⟨M2, e2, g2, hA2⟩ := g1.add (n := n) (E := E) hS (by omega) (o := 4) (v := 0) (by omega) (by omega)
      have mod : ∀ (S' : zS), ShOK S' B → ∀ MM Pl mo ma nc, Pre MM B ord tb l s0 pt0 dp 1 2 Pl mo ma nc → ∃ k MM1 Q mo1 ma1 nc1, Rc n E S' B 1 k 0 MM 0 MM1 ∧ k + 2 * s0 ≤ 2 * nx tb l s ∧ Pre MM1 B ord tb l (nx tb l s) pt dp 2 2 ((30, ((flu Q (mo1, ma1, nc1)).2.2 : Int)) :: Pl) (upF (flu Q (mo1, ma1, nc1)).1 (flu Q (mo1, ma1, nc1)).2.2 30) (upF (flu Q (mo1, ma1, nc1)).2.1 (flu Q (mo1, ma1, nc1)).2.2 0) ((flu Q (mo1, ma1, nc1)).2.2 + 1) ∧ zAg (psX B) MM MM1 ∧ (flu Q (mo1, ma1, nc1)).2.2 + s0 ≤ nc + s ∧ cdOK ord mo ma nc (flu Q (mo1, ma1, nc1)) (pt - pt0) f := fun S' hS' MM Pl mo ma nc hp => by
        obtain ⟨k, MM1, Q, mo1, ma1, nc1, r1, kk, h1, z1, q1, b1, cd⟩ := om S' hS' MM Pl mo ma nc hp
        obtain ⟨hp1, hp2, hp3, hp4⟩ := hp
        have hss := oc.2.2.2.2.2.1
        have fl := flu_len Q (mo1, ma1, nc1)
        dsimp only at fl
        obtain ⟨MM2, e2, g2, z2⟩ := m_btOr (n := n) (E := E) hS' hn (P := Pl) (Q := Q) hw hp2 h1.1 q1 (by omega) (by omega) (by omega)
        refine ⟨k + 1, MM2, Q, mo1, ma1, nc1, r1.trans (rc_2 hS' h1.1.2.2 e2), by omega, ⟨h1.to g2 z2, Or.inr ⟨_, _, rfl, by show bnd 30 < 2; decide⟩, fun q => ?_, by rw [List.length_cons]; omega⟩, z1.trans z2, by omega, cd⟩
        show (if (31 : Int) ≤ 30 then (30 : Int) else inn Pl) ≠ 32
        rw [if_neg (by decide)]
        exact hp3 rfl
      rcases hin M2 (nx tb l s) _ (len + 1) pt wm g2 (by omega) with ⟨M3, s3, e3, hA3, p3, b3⟩ | ⟨M3, s3, st3, len3, pt3, wm3, g, e3, hA3, g3, oc3, om3, ec3⟩
      · refine Or.inl ⟨M3, s3, ?_, ((hA.trans hA1).trans hA2).trans hA3, p3, by have := b3.1; have := oc.2.2.2.2.2.1; omega, b3.2.1, fun S' hS' MM Pl mo ma nc hp => ?_⟩
        · generalize zfix (fun r12 s => F_Ps_readTest_L12 n E S rc r12 s.1 s.2.1 s.2.2.1 s.2.2.2) fuel = rec
          unfold F_Ps_readTest_L12
          rw [show (400 : Int32) = iI 400 by decide, if_neg (cleF (by omega) (by omega) (by omega)), hS.g69_1, obs, hS.ck67, obs, s_atWord hS hn hC.1 (by decide), obs, if_pos hwd, e1, obs, hS.g69_0, obs, hS.ck70, obs, show (4 : Int32) = iI 4 by decide, iL0, e2, obs, e3, obs, if_neg Bool.false_ne_true]
        · obtain ⟨k, MM1, Q, mo1, ma1, nc1, r1, kk, pr, z1, nn, cd⟩ := mod S' hS' MM Pl mo ma nc hp
          obtain ⟨k2, t', MM2, r2, kk2, bd, z2⟩ := b3.2.2 S' hS' _ _ _ _ _ pr
          exact ⟨k + k2, t', MM2, r1.trans r2, by omega, bd, (toB z1).trans z2⟩
      · obtain ⟨d1, d2, d3, d4, d5, d6, d7⟩ := oc3
        obtain ⟨c1, c2, c3, c4, c5, c6, c7⟩ := oc
        have hs3l := g3.1.2.1
        have i1 := c2.1
        have i2 := d2.1
        have pt5 := g3.2.1.2.2
        have e16 := d1 len (by omega)
        rw [upF_s] at e16
        obtain ⟨M4, e4, g4, hA4⟩ := g3.leap (n := n) (E := E) hS (p := len) (by omega)
        have oc4 : OkC ord st0 len0 pt0 wm0 s0 (upF st3 len (st3 len % 16 + 16 * (len3 : Int))) len3 pt3 wm3 s3 (anF 1 f g) := by
          refine ⟨fun p hp => ?_, ?_, (c3.up d4).an d3, c4.trans d4, by omega, by omega, by omega⟩
          · rw [upF_n (by omega), d1 p (by omega), upF_n (by omega)]; exact c1 p hp
          · refine (sgC.or (c2.cg (fun p p1 p2 => ?_)) (d2.cg (fun p p1 p2 => ?_)) (by rw [upF_s, e16]; omega) (by rw [upF_s, e16]; omega)).up (by omega)
            · rw [upF_n (by omega), d1 p (by omega)]; exact upF_n (by omega)
            · exact upF_n (by omega)
        have om4 : OkM n E S B ord tb l 1 1 0 2 dp s0 pt0 s3 pt3 (anF 1 f g) := fun S' hS' MM Pl mo ma nc hp => by
          obtain ⟨k, MM1, Q, mo1, ma1, nc1, r1, kk, pr, z1, nn, cd⟩ := mod S' hS' MM Pl mo ma nc hp
          obtain ⟨k2, MM2, Q2, mo2, ma2, nc2, r2, kk2, h2, z2, q2, b2, cd2⟩ := om3 S' hS' _ _ _ _ _ pr
          have pr4 := pr.2.2.2
          rw [List.length_cons] at pr4
          have fl := flu_len Q2 (mo2, ma2, nc2)
          dsimp only at fl
          refine ⟨k + k2, MM2, Q2 ++ [(30, ((flu Q (mo1, ma1, nc1)).2.2 : Int))], mo2, ma2, nc2, r1.trans r2, by omega, by rw [List.append_assoc]; exact h2, z1.trans z2, fun x hx => ?_, by rw [List.length_append, List.length_cons, List.length_nil]; omega, ?_⟩
          · rcases List.mem_append.mp hx with q | q
            · have := q2 x q; omega
            · rw [List.mem_singleton.mp q]; show 1 ≤ bnd 30; decide
          · rw [flu_app]
            show cdOK ord mo ma nc (fl1 (30, ((flu Q (mo1, ma1, nc1)).2.2 : Int)) (flu Q2 (mo2, ma2, nc2))) _ _
            have := cd_lp (d := pt3 - pt0) cd cd2 (Or.inr ⟨rfl, rfl⟩) (by omega) (by omega)
            unfold fl1
            rw [if_pos (Or.inr rfl)]
            dsimp only
            rw [Int.toNat_natCast]
            exact this
        have fin := ih fuel M4 s3 _ len3 pt3 wm3 (x2 + 1) _ (by omega) (by omega) g4 (by omega) (by omega) ((((hA.trans hA1).trans hA2).trans hA3).trans hA4) oc4 om4 (fun s' e => by subst e; exact ⟨(ei s rfl).1.an ec3.1, ec3.2⟩)
        have eq : F_Ps_readTest_L12 n E S rc (zfix (fun r12 s => F_Ps_readTest_L12 n E S rc r12 s.1 s.2.1 s.2.2.1 s.2.2.2) fuel) (B + 69) (iI (dp : Int)) (iI (x2 : Int)) M = zfix (fun r12 s => F_Ps_readTest_L12 n E S rc r12 s.1 s.2.1 s.2.2.1 s.2.2.2) fuel (B + 69, iI (dp : Int), iI ((x2 + 1 : Nat) : Int), M4) := by
          generalize zfix (fun r12 s => F_Ps_readTest_L12 n E S rc r12 s.1 s.2.1 s.2.2.1 s.2.2.2) fuel = rec
          unfold F_Ps_readTest_L12
          rw [show (400 : Int32) = iI 400 by decide, if_neg (cleF (by omega) (by omega) (by omega)), hS.g69_1, obs, hS.ck67, obs, s_atWord hS hn hC.1 (by decide), obs, if_pos hwd, e1, obs, hS.g69_0, obs, hS.ck70, obs, show (4 : Int32) = iI 4 by decide, iL0, e2, obs, e3, obs, if_pos rfl, e4, obs, iL1, iI_add]
          rfl
        rw [eq]
        exact fin
theorem sim_Test (hS : ShOK S B) (hn : 1000 ≤ n) (hrc : dp < 8 → ∀ M s st len pt wm, CS M B ord tb l cl s st len pt wm → len ≤ s → Sim n E S B ord tb l cl 1 1 0 2 (dp + 1) s st len pt wm M (fun s' f => tst f ∧ wis tb l s' 1476 = false ∧ wis tb l s' 498 = false) (rc (B + 69, iI ((dp + 1 : Nat) : Int), M))) (hd : dp ≤ 8) (hC : CS M B ord tb l cl s st len pt wm) (hl : len ≤ s) : Sim n E S B ord tb l cl 1 1 0 2 dp s st len pt wm M (fun s' f => tst f ∧ wis tb l s' 1476 = false ∧ wis tb l s' 498 = false) (F_Ps_readTest n E S rc (B + 69) (iI (dp : Int)) M) := by
  have hl4 := hC.1.1.1
  rcases sim_Both hS hn hrc hd hC hl with ⟨M2, s2, e2, hA2, p2, b2⟩ | ⟨M2, s2, st2, len2, pt2, wm2, g, e2, hA2, g2, oc2, om2, ec2⟩
  · refine Or.inl ⟨M2, s2, ?_, hA2, p2, b2.lv (by decide)⟩
    unfold F_Ps_readTest
    rw [hS.ck69, obs, e2, obs, if_neg Bool.false_ne_true]
  · have hs2l := g2.1.2.1
    have := lp_Test (M0 := M) (st0 := st) (len0 := len) (pt0 := pt) (wm0 := wm) (s0 := s) hS hn (fun M s st len pt wm hC hl => sim_Both hS hn hrc hd hC hl) (l - s2) n M2 s2 st2 len2 pt2 wm2 0 g (Nat.le_refl _) (by omega) g2 (by have := oc2.2.2.2.2.2.1; omega) (by have := oc2.2.2.2.2.1; omega) hA2 oc2 (om2.lv (by decide)) (fun s' e => by subst e; exact ec2)
    have eq : F_Ps_readTest n E S rc (B + 69) (iI (dp : Int)) M = zfix (fun r12 s => F_Ps_readTest_L12 n E S rc r12 s.1 s.2.1 s.2.2.1 s.2.2.2) n (B + 69, iI (dp : Int), iI ((0 : Nat) : Int), M2) := by
      unfold F_Ps_readTest F_Ps_readTest_b12
      rw [hS.ck69, obs, e2, obs, if_pos rfl]
      rfl
    rw [eq]
    exact this
/-- tests, with their brackets -/
theorem sim_testD (hS : ShOK S B) (hn : 1000 ≤ n) : ∀ (D dp : Nat), 9 ≤ D + dp → dp ≤ 8 → ∀ (M : zH) (s : Nat) (st : Nat → Int) (len pt wm : Nat), CS M B ord tb l cl s st len pt wm → len ≤ s → Sim n E S B ord tb l cl 1 1 0 2 dp s st len pt wm M (fun s' f => tst f ∧ wis tb l s' 1476 = false ∧ wis tb l s' 498 = false) (F_Ps_readTest_D n E S D (B + 69, iI (dp : Int), M)) := by
  intro D
  induction D with
  | zero => intro dp h1 h2; omega
  | succ D ih =>
    intro dp h1 h2 M s st len pt wm hC hl
    show Sim n E S B ord tb l cl 1 1 0 2 dp s st len pt wm M (fun s' f => tst f ∧ wis tb l s' 1476 = false ∧ wis tb l s' 498 = false) (F_Ps_readTest n E S (F_Ps_readTest_D n E S D) (B + 69) (iI (dp : Int)) M)
    exact sim_Test hS hn (fun c M s st len pt wm hC hl => ih (dp + 1) (by omega) (by omega) M s st len pt wm hC hl) h2 hC hl
end
