/-! law and orders: the simulation: terms and sums -/
theorem sgN_6 (t : Int) : sgN t 6 (zLit 6).length 0 = if (42 : Int) = t then 0 else if (47 : Int) = t then 1 else if (37 : Int) = t then 2 else -1 := by
  have e0 : lc 6 0 = 42 := by decide
  have e1 : lc 6 1 = 47 := by decide
  have e2 : lc 6 2 = 37 := by decide
  show (if lc 6 0 = t then ((0 : Nat) : Int) else if lc 6 1 = t then ((1 : Nat) : Int) else if lc 6 2 = t then ((2 : Nat) : Int) else -1) = _
  rw [e0, e1, e2]; rfl
theorem sgN_7 (t : Int) : sgN t 7 (zLit 7).length 0 = if (43 : Int) = t then 0 else if (45 : Int) = t then 1 else -1 := by
  have e0 : lc 7 0 = 43 := by decide
  have e1 : lc 7 1 = 45 := by decide
  show (if lc 7 0 = t then ((0 : Nat) : Int) else if lc 7 1 = t then ((1 : Nat) : Int) else -1) = _
  rw [e0, e1]; rfl
theorem sgN_11 (t : Int) : sgN t 11 (zLit 11).length 0 = if (60 : Int) = t then 0 else if (62 : Int) = t then 1 else if (61 : Int) = t then 2 else -1 := by
  have e0 : lc 11 0 = 60 := by decide
  have e1 : lc 11 1 = 62 := by decide
  have e2 : lc 11 2 = 61 := by decide
  show (if lc 11 0 = t then ((0 : Nat) : Int) else if lc 11 1 = t then ((1 : Nat) : Int) else if lc 11 2 = t then ((2 : Nat) : Int) else -1) = _
  rw [e0, e1, e2]; rfl
section
variable {tb : Nat → Int} {l s : Nat}
theorem opS_k (k : kdT tb l s = 3) : opS tb l s = if tb s = 43 then 20 else if tb s = 45 then 21 else if tb s = 42 then 22 else if tb s = 47 then 23 else if tb s = 37 then 24 else -1 := by
  unfold opS
  simp only [k, true_and]
theorem opS_n (k : ¬ kdT tb l s = 3) : opS tb l s = -1 := by
  unfold opS
  simp only [k, false_and, if_false]
theorem cpS_k (k : kdT tb l s = 3) : cpS tb l s = if tb s = 60 then 25 else if tb s = 62 then 26 else if tb s = 61 then 27 else -1 := by
  unfold cpS
  simp only [k, true_and]
theorem cpS_n (k : ¬ kdT tb l s = 3) : cpS tb l s = -1 := by
  unfold cpS
  simp only [k, false_and, if_false]
theorem opS_b : (opS tb l s = -1 ∨ (20 ≤ opS tb l s ∧ opS tb l s ≤ 24)) ∧ (opS tb l s ≠ -1 → kdT tb l s = 3) := by
  by_cases k : kdT tb l s = 3
  · refine ⟨?_, fun _ => k⟩
    rw [opS_k k]
    repeat' split
    all_goals omega
  · exact ⟨Or.inl (opS_n k), fun q => absurd (opS_n k) q⟩
theorem sg6 : (sgT tb l s 6 = -1 ∧ opS tb l s < 22) ∨ (0 ≤ sgT tb l s 6 ∧ sgT tb l s 6 ≤ 2 ∧ opS tb l s = 22 + sgT tb l s 6) := by
  unfold sgT
  by_cases k : kdT tb l s = 3
  · rw [if_pos k, sgN_6, opS_k k]
    by_cases c1 : tb s = 42
    · rw [c1]; decide
    by_cases c2 : tb s = 47
    · rw [c2]; decide
    by_cases c3 : tb s = 37
    · rw [c3]; decide
    rw [if_neg (fun z => c1 z.symm), if_neg (fun z => c2 z.symm), if_neg (fun z => c3 z.symm), if_neg c1, if_neg c2, if_neg c3]
    refine Or.inl ⟨rfl, ?_⟩
    repeat' split
    all_goals omega
  · rw [if_neg k, opS_n k]; decide
theorem sg7 : (sgT tb l s 7 = -1 ∧ ¬ (20 ≤ opS tb l s ∧ opS tb l s ≤ 21)) ∨ (0 ≤ sgT tb l s 7 ∧ sgT tb l s 7 ≤ 1 ∧ opS tb l s = 20 + sgT tb l s 7) := by
  unfold sgT
  by_cases k : kdT tb l s = 3
  · rw [if_pos k, sgN_7, opS_k k]
    by_cases c1 : tb s = 43
    · rw [c1]; decide
    by_cases c2 : tb s = 45
    · rw [c2]; decide
    rw [if_neg (fun z => c1 z.symm), if_neg (fun z => c2 z.symm), if_neg c1, if_neg c2]
    refine Or.inl ⟨rfl, ?_⟩
    repeat' split
    all_goals omega
  · rw [if_neg k, opS_n k]; decide
theorem sg11 : (sgT tb l s 11 = -1 ∧ cpS tb l s = -1) ∨ (0 ≤ sgT tb l s 11 ∧ sgT tb l s 11 ≤ 2 ∧ cpS tb l s = 25 + sgT tb l s 11 ∧ kdT tb l s = 3) := by
  unfold sgT
  by_cases k : kdT tb l s = 3
  · rw [if_pos k, sgN_11, cpS_k k]
    by_cases c1 : tb s = 60
    · rw [c1]; simp [k]
    by_cases c2 : tb s = 62
    · rw [c2]; simp [k]
    by_cases c3 : tb s = 61
    · rw [c3]; simp [k]
    rw [if_neg (fun z => c1 z.symm), if_neg (fun z => c2 z.symm), if_neg (fun z => c3 z.symm), if_neg c1, if_neg c2, if_neg c3]
    exact Or.inl ⟨rfl, rfl⟩
  · rw [if_neg k, cpS_n k]; exact Or.inl ⟨rfl, rfl⟩
theorem bnd_6 {o : Int} (h : 22 ≤ o) (h2 : o ≤ 24) : bnd o = 6 := by
  unfold bnd
  rw [if_neg (by omega), if_neg (by omega), if_neg (by omega), if_neg (by omega), if_neg (by omega), if_pos h]
theorem bnd_5 {o : Int} (h : 20 ≤ o) (h2 : o < 22) : bnd o = 5 := by
  unfold bnd
  rw [if_neg (by omega), if_neg (by omega), if_neg (by omega), if_neg (by omega), if_neg (by omega), if_neg (by omega)]
theorem bnd_4 {o : Int} (h : 25 ≤ o) (h2 : o ≤ 27) : bnd o = 4 := by
  unfold bnd
  rw [if_neg (by omega), if_neg (by omega), if_neg (by omega), if_neg (by omega), if_pos h]
end
section
variable {n : Nat} {E : zE} {S : zS} {M M0 : zH} {B : Nat} {ord : Bool} {tb : Nat → Int} {l cl s s' s0 dp : Nat} {st st0 : Nat → Int} {len pt pt' wm len0 pt0 wm0 : Nat} {tt t0 te L L' : Int} {rc : Nat × Int32 × zH → Option (Bool × zH)} {f : (Nat → Int) → Option Int}
theorem preP.lv {Pl : List (Int × Int)} (h : preP L Pl) (hL : L ≤ L') : preP L' Pl := by
  rcases h with q | ⟨y, t, q, q2⟩
  · exact Or.inl q
  · exact Or.inr ⟨y, t, q, by omega⟩
theorem BadP.lv (h : BadP n E S B ord tb l L' tt t0 te dp s pt s') (hL : L ≤ L') : BadP n E S B ord tb l L tt t0 te dp s pt s' := ⟨h.1, h.2.1, fun S' hS' MM Pl mo ma nc hp => h.2.2 S' hS' MM Pl mo ma nc ⟨hp.1, hp.2.1.lv hL, hp.2.2⟩⟩
theorem OkM.lv (h : OkM n E S B ord tb l L' tt t0 te dp s pt s' pt' f) (hL : L ≤ L') : OkM n E S B ord tb l L tt t0 te dp s pt s' pt' f := fun S' hS' MM Pl mo ma nc hp => by
  obtain ⟨k, MM2, Q, mo2, ma2, nc2, r2, kk, h2, z2, q2, b2, cd⟩ := h S' hS' MM Pl mo ma nc ⟨hp.1, hp.2.1.lv hL, hp.2.2⟩
  exact ⟨k, MM2, Q, mo2, ma2, nc2, r2, kk, h2, z2, fun x hx => by have := q2 x hx; omega, b2, cd⟩
theorem fl1_ar {x : Int × Int} {c : Cd} (h : x.1 < 29) : fl1 x c = (upF c.1 c.2.2 x.1, upF c.2.1 c.2.2 0, c.2.2 + 1) := by
  unfold fl1
  rw [if_neg (by omega)]
/-- further ones of a Term -/
theorem lp_Term (hS : ShOK S B) (hn : 1000 ≤ n) (hin : ∀ M s st len pt wm, CS M B ord tb l cl s st len pt wm → len ≤ s → Sim n E S B ord tb l cl 7 tt 1 3 dp s st len pt wm M (fun s' _ => True) (F_Ps_readPart n E S rc (B + 69) (iI (dp : Int)) M)) : ∀ (r fuel : Nat) (M : zH) (s : Nat) (st : Nat → Int) (len pt wm x2 : Nat) (f : (Nat → Int) → Option Int), l - s ≤ r → r < fuel → CS M B ord tb l cl s st len pt wm → x2 < s → len ≤ s → zAg (clX B cl) M0 M → OkC ord st0 len0 pt0 wm0 s0 st len pt wm s f → OkM n E S B ord tb l 6 tt t0 3 dp s0 pt0 s pt f → (∀ s', s' = s → True) → Sim n E S B ord tb l cl 6 tt t0 3 dp s0 st0 len0 pt0 wm0 M0 (fun s' _ => ¬ 22 ≤ opS tb l s') (zfix (fun r12 s => F_Ps_readTerm_L12 n E S rc r12 s.1 s.2.1 s.2.2.1 s.2.2.2) fuel (B + 69, iI (dp : Int), iI (x2 : Int), M)) := by
  intro r
  induction r with
  | zero =>
    intro fuel M s st len pt wm x2 f hr hf hC hx hl hA oc om ei
    obtain ⟨fuel, rfl⟩ : ∃ f', fuel = f' + 1 := ⟨fuel - 1, by omega⟩
    have hsl := hC.1.2.1
    have hl4 := hC.1.1.1
    have ob := opS_b (tb := tb) (l := l) (s := s)
    have k0 : kdT tb l s = 0 := by
      by_cases z : kdT tb l s = 0
      · exact z
      · have := kdT_l (tb := tb) (l := l) (s := s) z; omega
    have c : sgT tb l s 6 = -1 := by unfold sgT; rw [if_neg (by omega)]
    refine Or.inr ⟨M, s, st, len, pt, wm, f, ?_, hA, hC, oc, om, ?_⟩
    · show F_Ps_readTerm_L12 n E S rc _ (B + 69) (iI (dp : Int)) (iI (x2 : Int)) M = _
      generalize zfix (fun r12 s => F_Ps_readTerm_L12 n E S rc r12 s.1 s.2.1 s.2.2.1 s.2.2.2) fuel = rec
      unfold F_Ps_readTerm_L12
      rw [show (400 : Int32) = iI 400 by decide, if_neg (cleF (by omega) (by omega) (by omega)), hS.g69_1, obs, hS.ck67, obs, s_signIn hS hn hC.1 (by decide) (by decide), obs, c, if_pos (show iI (-1) = -1 by decide)]
    · show ¬ 22 ≤ opS tb l s
      have : opS tb l s = -1 := opS_n (by omega)
      omega
  | succ r ih =>
    intro fuel M s st len pt wm x2 f hr hf hC hx hl hA oc om ei
    obtain ⟨fuel, rfl⟩ : ∃ f', fuel = f' + 1 := ⟨fuel - 1, by omega⟩
    have hsl := hC.1.2.1
    have hl4 := hC.1.1.1
    have ob := opS_b (tb := tb) (l := l) (s := s)
    show Sim n E S B ord tb l cl 6 tt t0 3 dp s0 st0 len0 pt0 wm0 M0 (fun s' _ => ¬ 22 ≤ opS tb l s') (F_Ps_readTerm_L12 n E S rc (zfix (fun r12 s => F_Ps_readTerm_L12 n E S rc r12 s.1 s.2.1 s.2.2.1 s.2.2.2) fuel) (B + 69) (iI (dp : Int)) (iI (x2 : Int)) M)
    rcases sg6 (tb := tb) (l := l) (s := s) with ⟨c, co⟩ | ⟨c, c2, co⟩
    · refine Or.inr ⟨M, s, st, len, pt, wm, f, ?_, hA, hC, oc, om, ?_⟩
      · generalize zfix (fun r12 s => F_Ps_readTerm_L12 n E S rc r12 s.1 s.2.1 s.2.2.1 s.2.2.2) fuel = rec
        unfold F_Ps_readTerm_L12
        rw [show (400 : Int32) = iI 400 by decide, if_neg (cleF (by omega) (by omega) (by omega)), hS.g69_1, obs, hS.ck67, obs, s_signIn hS hn hC.1 (by decide) (by decide), obs, c, if_pos (show iI (-1) = -1 by decide)]
      · show ¬ 22 ≤ opS tb l s
        have := ei s rfl
        omega
    · have k3 := ob.2 (by omega)
      have hs1 := kdT_l (tb := tb) (l := l) (s := s) (by omega)
      have sb := nx_b (tb := tb) hsl
      have sb2 := sb.2.2 (by omega)
      have hbd : bnd (opS tb l s) = 6 := bnd_6 (by omega) (by omega)
      obtain ⟨M1, e1, g1, hA1⟩ := hC.adv (n := n) (E := E) hS hn
      have mod : ∀ (S' : zS), ShOK S' B → ∀ MM Pl mo ma nc, Pre MM B ord tb l s0 pt0 dp 6 3 Pl mo ma nc → ∃ k MM1 Q mo1 ma1 nc1, Rc n E S' B tt k t0 MM 1 MM1 ∧ k + 2 * s0 ≤ 2 * nx tb l s ∧ Pre MM1 B ord tb l (nx tb l s) pt dp 7 3 ((opS tb l s, 0) :: Pl) (flu Q (mo1, ma1, nc1)).1 (flu Q (mo1, ma1, nc1)).2.1 (flu Q (mo1, ma1, nc1)).2.2 ∧ zAg (psX B) MM MM1 ∧ (flu Q (mo1, ma1, nc1)).2.2 + s0 ≤ nc + s ∧ cdOK ord mo ma nc (flu Q (mo1, ma1, nc1)) (pt - pt0) f := fun S' hS' MM Pl mo ma nc hp => by
        obtain ⟨k, MM1, Q, mo1, ma1, nc1, r1, kk, h1, z1, q1, b1, cd⟩ := om S' hS' MM Pl mo ma nc hp
        obtain ⟨hp1, hp2, hp3, hp4⟩ := hp
        have hss := oc.2.2.2.2.2.1
        obtain ⟨MM2, e2, g2, z2⟩ := m_bsOp (n := n) (E := E) (x1 := iI tt) hS' hn (show opS tb l s ≠ -1 by omega) (P := Pl) (Q := Q) (by rw [hbd]; exact hp2) h1.1 (fun x hx => by rw [hbd]; exact q1 x hx) (by omega) (by omega)
        have fl := flu_len Q (mo1, ma1, nc1)
        dsimp only at fl
        exact ⟨k + 1, MM2, Q, mo1, ma1, nc1, r1.trans (rc_3 hS' h1.1.2.2 e2), by omega, ⟨h1.to g2 z2, Or.inr ⟨_, _, rfl, by show bnd (opS tb l s) < 7; omega⟩, fun q => by omega, by rw [List.length_cons]; omega⟩, z1.trans z2, by omega, cd⟩
      rcases hin M1 (nx tb l s) st len pt wm g1 (by omega) with ⟨M2, s2, e2, hA2, p2, b2⟩ | ⟨M2, s2, st2, len2, pt2, wm2, g, e2, hA2, g2, oc2, om2, ec2⟩
      · refine Or.inl ⟨M2, s2, ?_, (hA.trans hA1).trans hA2, p2, by have := b2.1; have := oc.2.2.2.2.2.1; omega, b2.2.1, fun S' hS' MM Pl mo ma nc hp => ?_⟩
        · generalize zfix (fun r12 s => F_Ps_readTerm_L12 n E S rc r12 s.1 s.2.1 s.2.2.1 s.2.2.2) fuel = rec
          unfold F_Ps_readTerm_L12
          rw [show (400 : Int32) = iI 400 by decide, if_neg (cleF (by omega) (by omega) (by omega)), hS.g69_1, obs, hS.ck67, obs, s_signIn hS hn hC.1 (by decide) (by decide), obs, if_neg (show ¬ iI (sgT tb l s 6) = -1 from ceqF (y := -1) (by omega) (by omega) (by omega) (by omega) (by omega)), s_signIn hS hn hC.1 (by decide) (by decide), obs, e1, obs, e2, obs, if_neg Bool.false_ne_true]
        · obtain ⟨k, MM1, Q, mo1, ma1, nc1, r1, kk, pr, z1, nn, cd⟩ := mod S' hS' MM Pl mo ma nc hp
          obtain ⟨k2, t', MM2, r2, kk2, bd, z2⟩ := b2.2.2 S' hS' _ _ _ _ _ pr
          exact ⟨k + k2, t', MM2, r1.trans r2, by omega, bd, (toB z1).trans z2⟩
      · obtain ⟨d1, d2, d3, d4, d5, d6, d7⟩ := oc2
        obtain ⟨c1, c2', c3, c4, c5, c6, c7⟩ := oc
        have hs2l := g2.1.2.1
        have pt5 := g2.2.1.2.2
        have i1 := c2'.1
        have i2 := d2.1
        obtain ⟨M3, e3, g3, hA3⟩ := g2.add (n := n) (E := E) hS (by omega) (o := 7 + sgT tb l s 6) (v := 0) (by omega) (by omega)
        have oc3 : OkC ord st0 len0 pt0 wm0 s0 (upF st2 len2 (7 + sgT tb l s 6 + 16 * 0)) (len2 + 1) pt2 wm2 s2 (bnF (7 + sgT tb l s 6) f g) := by
          refine ⟨fun p hp => ?_, ?_, (c3.up d4).bn d3, c4.trans d4, by omega, by omega, by omega⟩
          · rw [upF_n (by omega), d1 p (by omega)]; exact c1 p hp
          · refine (sgC.bin (c2'.cg (fun p p1 p2 => ?_)) (d2.cg (fun p p1 p2 => ?_)) (by rw [upF_s]; omega) (by omega)).up (by omega)
            · rw [upF_n (by omega)]; exact d1 p (by omega)
            · exact upF_n (by omega)
        have om3 : OkM n E S B ord tb l 6 tt t0 3 dp s0 pt0 s2 pt2 (bnF (7 + sgT tb l s 6) f g) := fun S' hS' MM Pl mo ma nc hp => by
          obtain ⟨k, MM1, Q, mo1, ma1, nc1, r1, kk, pr, z1, nn, cd⟩ := mod S' hS' MM Pl mo ma nc hp
          obtain ⟨k2, MM2, Q2, mo2, ma2, nc2, r2, kk2, h2, z2, q2, b2, cd2⟩ := om2 S' hS' _ _ _ _ _ pr
          refine ⟨k + k2, MM2, Q2 ++ [(opS tb l s, 0)], mo2, ma2, nc2, r1.trans r2, by omega, by rw [List.append_assoc]; exact h2, z1.trans z2, fun x hx => ?_, by rw [List.length_append, List.length_cons, List.length_nil]; omega, ?_⟩
          · rcases List.mem_append.mp hx with q | q
            · have := q2 x q; omega
            · rw [List.mem_singleton.mp q]; show 6 ≤ bnd (opS tb l s); omega
          · rw [flu_app]
            show cdOK ord mo ma nc (fl1 (opS tb l s, 0) (flu Q2 (mo2, ma2, nc2))) _ _
            rw [fl1_ar (show opS tb l s < 29 by omega)]
            have := cd_bin (d := pt2 - pt0) cd cd2 (op := 7 + sgT tb l s 6) (by omega) (by omega) (by omega)
            rw [show 7 + sgT tb l s 6 + 15 = opS tb l s by omega] at this
            exact this
        have fin := ih fuel M3 s2 _ (len2 + 1) pt2 wm2 (x2 + 1) _ (by omega) (by omega) g3 (by omega) (by omega) (((hA.trans hA1).trans hA2).trans hA3) oc3 om3 (fun s' e => by subst e; exact ec2)
        have eq : F_Ps_readTerm_L12 n E S rc (zfix (fun r12 s => F_Ps_readTerm_L12 n E S rc r12 s.1 s.2.1 s.2.2.1 s.2.2.2) fuel) (B + 69) (iI (dp : Int)) (iI (x2 : Int)) M = zfix (fun r12 s => F_Ps_readTerm_L12 n E S rc r12 s.1 s.2.1 s.2.2.1 s.2.2.2) fuel (B + 69, iI (dp : Int), iI ((x2 + 1 : Nat) : Int), M3) := by
          generalize zfix (fun r12 s => F_Ps_readTerm_L12 n E S rc r12 s.1 s.2.1 s.2.2.1 s.2.2.2) fuel = rec
          unfold F_Ps_readTerm_L12
          rw [show (400 : Int32) = iI 400 by decide, if_neg (cleF (by omega) (by omega) (by omega)), hS.g69_1, obs, hS.ck67, obs, s_signIn hS hn hC.1 (by decide) (by decide), obs, if_neg (show ¬ iI (sgT tb l s 6) = -1 from ceqF (y := -1) (by omega) (by omega) (by omega) (by omega) (by omega)), s_signIn hS hn hC.1 (by decide) (by decide), obs, e1, obs, e2, obs, if_pos rfl, hS.g69_0, obs, hS.ck70, obs, show (7 : Int32) = iI 7 by decide, iI_add, iL0, e3, obs, iL1, iI_add]
          rfl
        rw [eq]
        exact fin
theorem sim_Term (hS : ShOK S B) (hn : 1000 ≤ n) (hrc : dp < 8 → ∀ M s st len pt wm, CS M B ord tb l cl s st len pt wm → len ≤ s → Sim n E S B ord tb l cl 5 tt 1 3 (dp + 1) s st len pt wm M (fun s' _ => opS tb l s' = -1) (rc (B + 69, iI ((dp + 1 : Nat) : Int), M))) (hd : dp ≤ 8) (hC : CS M B ord tb l cl s st len pt wm) (hl : len ≤ s) (hst : pst tb l s t0) : Sim n E S B ord tb l cl 6 tt t0 3 dp s st len pt wm M (fun s' _ => ¬ 22 ≤ opS tb l s') (F_Ps_readTerm n E S rc (B + 69) (iI (dp : Int)) M) := by
  have hl4 := hC.1.1.1
  rcases sim_part hS hn hrc hd hC hl hst with ⟨M2, s2, e2, hA2, p2, b2⟩ | ⟨M2, s2, st2, len2, pt2, wm2, g, e2, hA2, g2, oc2, om2, ec2⟩
  · refine Or.inl ⟨M2, s2, ?_, hA2, p2, b2.lv (by decide)⟩
    unfold F_Ps_readTerm
    rw [hS.ck69, obs, e2, obs, if_neg Bool.false_ne_true]
  · have hs2l := g2.1.2.1
    have := lp_Term (t0 := t0) (M0 := M) (st0 := st) (len0 := len) (pt0 := pt) (wm0 := wm) (s0 := s) hS hn (fun M s st len pt wm hC hl => sim_part hS hn hrc hd hC hl (Or.inl rfl)) (l - s2) n M2 s2 st2 len2 pt2 wm2 0 g (Nat.le_refl _) (by omega) g2 (by have := oc2.2.2.2.2.2.1; omega) (by have := oc2.2.2.2.2.1; omega) hA2 oc2 (om2.lv (by decide)) (fun s' e => by subst e; exact ec2)
    have eq : F_Ps_readTerm n E S rc (B + 69) (iI (dp : Int)) M = zfix (fun r12 s => F_Ps_readTerm_L12 n E S rc r12 s.1 s.2.1 s.2.2.1 s.2.2.2) n (B + 69, iI (dp : Int), iI ((0 : Nat) : Int), M2) := by
      unfold F_Ps_readTerm F_Ps_readTerm_b12
      rw [hS.ck69, obs, e2, obs, if_pos rfl]
      rfl
    rw [eq]
    exact this
/-- further ones of a Sum -/
theorem lp_Sum (hS : ShOK S B) (hn : 1000 ≤ n) (hin : ∀ M s st len pt wm, CS M B ord tb l cl s st len pt wm → len ≤ s → Sim n E S B ord tb l cl 6 tt 1 3 dp s st len pt wm M (fun s' _ => ¬ 22 ≤ opS tb l s') (F_Ps_readTerm n E S rc (B + 69) (iI (dp : Int)) M)) : ∀ (r fuel : Nat) (M : zH) (s : Nat) (st : Nat → Int) (len pt wm x2 : Nat) (f : (Nat → Int) → Option Int), l - s ≤ r → r < fuel → CS M B ord tb l cl s st len pt wm → x2 < s → len ≤ s → zAg (clX B cl) M0 M → OkC ord st0 len0 pt0 wm0 s0 st len pt wm s f → OkM n E S B ord tb l 5 tt t0 3 dp s0 pt0 s pt f → (∀ s', s' = s → ¬ 22 ≤ opS tb l s') → Sim n E S B ord tb l cl 5 tt t0 3 dp s0 st0 len0 pt0 wm0 M0 (fun s' _ => opS tb l s' = -1) (zfix (fun r12 s => F_Ps_readSum_L12 n E S rc r12 s.1 s.2.1 s.2.2.1 s.2.2.2) fuel (B + 69, iI (dp : Int), iI (x2 : Int), M)) := by
  intro r
  induction r with
  | zero =>
    intro fuel M s st len pt wm x2 f hr hf hC hx hl hA oc om ei
    obtain ⟨fuel, rfl⟩ : ∃ f', fuel = f' + 1 := ⟨fuel - 1, by omega⟩
    have hsl := hC.1.2.1
    have hl4 := hC.1.1.1
    have ob := opS_b (tb := tb) (l := l) (s := s)
    have k0 : kdT tb l s = 0 := by
      by_cases z : kdT tb l s = 0
      · exact z
      · have := kdT_l (tb := tb) (l := l) (s := s) z; omega
    have c : sgT tb l s 7 = -1 := by unfold sgT; rw [if_neg (by omega)]
    refine Or.inr ⟨M, s, st, len, pt, wm, f, ?_, hA, hC, oc, om, ?_⟩
    · show F_Ps_readSum_L12 n E S rc _ (B + 69) (iI (dp : Int)) (iI (x2 : Int)) M = _
      generalize zfix (fun r12 s => F_Ps_readSum_L12 n E S rc r12 s.1 s.2.1 s.2.2.1 s.2.2.2) fuel = rec
      unfold F_Ps_readSum_L12
      rw [show (400 : Int32) = iI 400 by decide, if_neg (cleF (by omega) (by omega) (by omega)), hS.g69_1, obs, hS.ck67, obs, s_signIn hS hn hC.1 (by decide) (by decide), obs, c, if_pos (show iI (-1) = -1 by decide)]
    · show opS tb l s = -1
      have : opS tb l s = -1 := opS_n (by omega)
      omega
  | succ r ih =>
    intro fuel M s st len pt wm x2 f hr hf hC hx hl hA oc om ei
    obtain ⟨fuel, rfl⟩ : ∃ f', fuel = f' + 1 := ⟨fuel - 1, by omega⟩
    have hsl := hC.1.2.1
    have hl4 := hC.1.1.1
    have ob := opS_b (tb := tb) (l := l) (s := s)
    show Sim n E S B ord tb l cl 5 tt t0 3 dp s0 st0 len0 pt0 wm0 M0 (fun s' _ => opS tb l s' = -1) (F_Ps_readSum_L12 n E S rc (zfix (fun r12 s => F_Ps_readSum_L12 n E S rc r12 s.1 s.2.1 s.2.2.1 s.2.2.2) fuel) (B + 69) (iI (dp : Int)) (iI (x2 : Int)) M)
    rcases sg7 (tb := tb) (l := l) (s := s) with ⟨c, co⟩ | ⟨c, c2, co⟩
    · refine Or.inr ⟨M, s, st, len, pt, wm, f, ?_, hA, hC, oc, om, ?_⟩
      · generalize zfix (fun r12 s => F_Ps_readSum_L12 n E S rc r12 s.1 s.2.1 s.2.2.1 s.2.2.2) fuel = rec
        unfold F_Ps_readSum_L12
        rw [show (400 : Int32) = iI 400 by decide, if_neg (cleF (by omega) (by omega) (by omega)), hS.g69_1, obs, hS.ck67, obs, s_signIn hS hn hC.1 (by decide) (by decide), obs, c, if_pos (show iI (-1) = -1 by decide)]
      · show opS tb l s = -1
        have := ei s rfl
        omega
    · have k3 := ob.2 (by omega)
      have hs1 := kdT_l (tb := tb) (l := l) (s := s) (by omega)
      have sb := nx_b (tb := tb) hsl
      have sb2 := sb.2.2 (by omega)
      have hbd : bnd (opS tb l s) = 5 := bnd_5 (by omega) (by omega)
      obtain ⟨M1, e1, g1, hA1⟩ := hC.adv (n := n) (E := E) hS hn
      have mod : ∀ (S' : zS), ShOK S' B → ∀ MM Pl mo ma nc, Pre MM B ord tb l s0 pt0 dp 5 3 Pl mo ma nc → ∃ k MM1 Q mo1 ma1 nc1, Rc n E S' B tt k t0 MM 1 MM1 ∧ k + 2 * s0 ≤ 2 * nx tb l s ∧ Pre MM1 B ord tb l (nx tb l s) pt dp 6 3 ((opS tb l s, 0) :: Pl) (flu Q (mo1, ma1, nc1)).1 (flu Q (mo1, ma1, nc1)).2.1 (flu Q (mo1, ma1, nc1)).2.2 ∧ zAg (psX B) MM MM1 ∧ (flu Q (mo1, ma1, nc1)).2.2 + s0 ≤ nc + s ∧ cdOK ord mo ma nc (flu Q (mo1, ma1, nc1)) (pt - pt0) f := fun S' hS' MM Pl mo ma nc hp => by
        obtain ⟨k, MM1, Q, mo1, ma1, nc1, r1, kk, h1, z1, q1, b1, cd⟩ := om S' hS' MM Pl mo ma nc hp
        obtain ⟨hp1, hp2, hp3, hp4⟩ := hp
        have hss := oc.2.2.2.2.2.1
        obtain ⟨MM2, e2, g2, z2⟩ := m_bsOp (n := n) (E := E) (x1 := iI tt) hS' hn (show opS tb l s ≠ -1 by omega) (P := Pl) (Q := Q) (by rw [hbd]; exact hp2) h1.1 (fun x hx => by rw [hbd]; exact q1 x hx) (by omega) (by omega)
        have fl := flu_len Q (mo1, ma1, nc1)
        dsimp only at fl
        exact ⟨k + 1, MM2, Q, mo1, ma1, nc1, r1.trans (rc_3 hS' h1.1.2.2 e2), by omega, ⟨h1.to g2 z2, Or.inr ⟨_, _, rfl, by show bnd (opS tb l s) < 6; omega⟩, fun q => by omega, by rw [List.length_cons]; omega⟩, z1.trans z2, by omega, cd⟩
      rcases hin M1 (nx tb l s) st len pt wm g1 (by omega) with ⟨M2, s2, e2, hA2, p2, b2⟩ | ⟨M2, s2, st2, len2, pt2, wm2, g, e2, hA2, g2, oc2, om2, ec2⟩
      · refine Or.inl ⟨M2, s2, ?_, (hA.trans hA1).trans hA2, p2, by have := b2.1; have := oc.2.2.2.2.2.1; omega, b2.2.1, fun S' hS' MM Pl mo ma nc hp => ?_⟩
        · generalize zfix (fun r12 s => F_Ps_readSum_L12 n E S rc r12 s.1 s.2.1 s.2.2.1 s.2.2.2) fuel = rec
          unfold F_Ps_readSum_L12
          rw [show (400 : Int32) = iI 400 by decide, if_neg (cleF (by omega) (by omega) (by omega)), hS.g69_1, obs, hS.ck67, obs, s_signIn hS hn hC.1 (by decide) (by decide), obs, if_neg (show ¬ iI (sgT tb l s 7) = -1 from ceqF (y := -1) (by omega) (by omega) (by omega) (by omega) (by omega)), s_signIn hS hn hC.1 (by decide) (by decide), obs, e1, obs, e2, obs, if_neg Bool.false_ne_true]
        · obtain ⟨k, MM1, Q, mo1, ma1, nc1, r1, kk, pr, z1, nn, cd⟩ := mod S' hS' MM Pl mo ma nc hp
          obtain ⟨k2, t', MM2, r2, kk2, bd, z2⟩ := b2.2.2 S' hS' _ _ _ _ _ pr
          exact ⟨k + k2, t', MM2, r1.trans r2, by omega, bd, (toB z1).trans z2⟩
      · obtain ⟨d1, d2, d3, d4, d5, d6, d7⟩ := oc2
        obtain ⟨c1, c2', c3, c4, c5, c6, c7⟩ := oc
        have hs2l := g2.1.2.1
        have pt5 := g2.2.1.2.2
        have i1 := c2'.1
        have i2 := d2.1
        obtain ⟨M3, e3, g3, hA3⟩ := g2.add (n := n) (E := E) hS (by omega) (o := 5 + sgT tb l s 7) (v := 0) (by omega) (by omega)
        have oc3 : OkC ord st0 len0 pt0 wm0 s0 (upF st2 len2 (5 + sgT tb l s 7 + 16 * 0)) (len2 + 1) pt2 wm2 s2 (bnF (5 + sgT tb l s 7) f g) := by
          refine ⟨fun p hp => ?_, ?_, (c3.up d4).bn d3, c4.trans d4, by omega, by omega, by omega⟩
          · rw [upF_n (by omega), d1 p (by omega)]; exact c1 p hp
          · refine (sgC.bin (c2'.cg (fun p p1 p2 => ?_)) (d2.cg (fun p p1 p2 => ?_)) (by rw [upF_s]; omega) (by omega)).up (by omega)
            · rw [upF_n (by omega)]; exact d1 p (by omega)
            · exact upF_n (by omega)
        have om3 : OkM n E S B ord tb l 5 tt t0 3 dp s0 pt0 s2 pt2 (bnF (5 + sgT tb l s 7) f g) := fun S' hS' MM Pl mo ma nc hp => by
          obtain ⟨k, MM1, Q, mo1, ma1, nc1, r1, kk, pr, z1, nn, cd⟩ := mod S' hS' MM Pl mo ma nc hp
          obtain ⟨k2, MM2, Q2, mo2, ma2, nc2, r2, kk2, h2, z2, q2, b2, cd2⟩ := om2 S' hS' _ _ _ _ _ pr
          refine ⟨k + k2, MM2, Q2 ++ [(opS tb l s, 0)], mo2, ma2, nc2, r1.trans r2, by omega, by rw [List.append_assoc]; exact h2, z1.trans z2, fun x hx => ?_, by rw [List.length_append, List.length_cons, List.length_nil]; omega, ?_⟩
          · rcases List.mem_append.mp hx with q | q
            · have := q2 x q; omega
            · rw [List.mem_singleton.mp q]; show 5 ≤ bnd (opS tb l s); omega
          · rw [flu_app]
            show cdOK ord mo ma nc (fl1 (opS tb l s, 0) (flu Q2 (mo2, ma2, nc2))) _ _
            rw [fl1_ar (show opS tb l s < 29 by omega)]
            have := cd_bin (d := pt2 - pt0) cd cd2 (op := 5 + sgT tb l s 7) (by omega) (by omega) (by omega)
            rw [show 5 + sgT tb l s 7 + 15 = opS tb l s by omega] at this
            exact this
        have fin := ih fuel M3 s2 _ (len2 + 1) pt2 wm2 (x2 + 1) _ (by omega) (by omega) g3 (by omega) (by omega) (((hA.trans hA1).trans hA2).trans hA3) oc3 om3 (fun s' e => by subst e; exact ec2)
        have eq : F_Ps_readSum_L12 n E S rc (zfix (fun r12 s => F_Ps_readSum_L12 n E S rc r12 s.1 s.2.1 s.2.2.1 s.2.2.2) fuel) (B + 69) (iI (dp : Int)) (iI (x2 : Int)) M = zfix (fun r12 s => F_Ps_readSum_L12 n E S rc r12 s.1 s.2.1 s.2.2.1 s.2.2.2) fuel (B + 69, iI (dp : Int), iI ((x2 + 1 : Nat) : Int), M3) := by
          generalize zfix (fun r12 s => F_Ps_readSum_L12 n E S rc r12 s.1 s.2.1 s.2.2.1 s.2.2.2) fuel = rec
          unfold F_Ps_readSum_L12
          rw [show (400 : Int32) = iI 400 by decide, if_neg (cleF (by omega) (by omega) (by omega)), hS.g69_1, obs, hS.ck67, obs, s_signIn hS hn hC.1 (by decide) (by decide), obs, if_neg (show ¬ iI (sgT tb l s 7) = -1 from ceqF (y := -1) (by omega) (by omega) (by omega) (by omega) (by omega)), s_signIn hS hn hC.1 (by decide) (by decide), obs, e1, obs, e2, obs, if_pos rfl, hS.g69_0, obs, hS.ck70, obs, show (5 : Int32) = iI 5 by decide, iI_add, iL0, e3, obs, iL1, iI_add]
          rfl
        rw [eq]
        exact fin
theorem sim_Sum (hS : ShOK S B) (hn : 1000 ≤ n) (hrc : dp < 8 → ∀ M s st len pt wm, CS M B ord tb l cl s st len pt wm → len ≤ s → Sim n E S B ord tb l cl 5 tt 1 3 (dp + 1) s st len pt wm M (fun s' _ => opS tb l s' = -1) (rc (B + 69, iI ((dp + 1 : Nat) : Int), M))) (hd : dp ≤ 8) (hC : CS M B ord tb l cl s st len pt wm) (hl : len ≤ s) (hst : pst tb l s t0) : Sim n E S B ord tb l cl 5 tt t0 3 dp s st len pt wm M (fun s' _ => opS tb l s' = -1) (F_Ps_readSum n E S rc (B + 69) (iI (dp : Int)) M) := by
  have hl4 := hC.1.1.1
  rcases sim_Term hS hn hrc hd hC hl hst with ⟨M2, s2, e2, hA2, p2, b2⟩ | ⟨M2, s2, st2, len2, pt2, wm2, g, e2, hA2, g2, oc2, om2, ec2⟩
  · refine Or.inl ⟨M2, s2, ?_, hA2, p2, b2.lv (by decide)⟩
    unfold F_Ps_readSum
    rw [hS.ck69, obs, e2, obs, if_neg Bool.false_ne_true]
  · have hs2l := g2.1.2.1
    have := lp_Sum (t0 := t0) (M0 := M) (st0 := st) (len0 := len) (pt0 := pt) (wm0 := wm) (s0 := s) hS hn (fun M s st len pt wm hC hl => sim_Term hS hn hrc hd hC hl (Or.inl rfl)) (l - s2) n M2 s2 st2 len2 pt2 wm2 0 g (Nat.le_refl _) (by omega) g2 (by have := oc2.2.2.2.2.2.1; omega) (by have := oc2.2.2.2.2.1; omega) hA2 oc2 (om2.lv (by decide)) (fun s' e => by subst e; exact ec2)
    have eq : F_Ps_readSum n E S rc (B + 69) (iI (dp : Int)) M = zfix (fun r12 s => F_Ps_readSum_L12 n E S rc r12 s.1 s.2.1 s.2.2.1 s.2.2.2) n (B + 69, iI (dp : Int), iI ((0 : Nat) : Int), M2) := by
      unfold F_Ps_readSum F_Ps_readSum_b12
      rw [hS.ck69, obs, e2, obs, if_pos rfl]
      rfl
    rw [eq]
    exact this
/-- sums, with their brackets -/
theorem sim_sumD (hS : ShOK S B) (hn : 1000 ≤ n) : ∀ (D dp : Nat), 9 ≤ D + dp → dp ≤ 8 → ∀ (t0 : Int) (M : zH) (s : Nat) (st : Nat → Int) (len pt wm : Nat), CS M B ord tb l cl s st len pt wm → len ≤ s → pst tb l s t0 → Sim n E S B ord tb l cl 5 tt t0 3 dp s st len pt wm M (fun s' _ => opS tb l s' = -1) (F_Ps_readSum_D n E S D (B + 69, iI (dp : Int), M)) := by
  intro D
  induction D with
  | zero => intro dp h1 h2; omega
  | succ D ih =>
    intro dp h1 h2 t0 M s st len pt wm hC hl hst
    show Sim n E S B ord tb l cl 5 tt t0 3 dp s st len pt wm M (fun s' _ => opS tb l s' = -1) (F_Ps_readSum n E S (F_Ps_readSum_D n E S D) (B + 69) (iI (dp : Int)) M)
    exact sim_Sum hS hn (fun c M s st len pt wm hC hl => ih (dp + 1) (by omega) (by omega) 1 M s st len pt wm hC hl (Or.inl rfl)) h2 hC hl hst
end
