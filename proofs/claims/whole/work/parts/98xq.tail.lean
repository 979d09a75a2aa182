/-! law and orders: a clause's test, both sides -/
def tgC (st : Nat → Int) (nw i j wm : Nat) (tg : Option ((Nat → Int) → Option Int)) : Prop := match tg with
  | none => i = j
  | some g => i < j ∧ tst g ∧ sgC st nw i j 50 g ∧ dpw wm g
def tgM (ord : Bool) (mo ma : Nat → Int) (i j : Nat) (tg : Option ((Nat → Int) → Option Int)) : Prop := match tg with
  | none => i = j
  | some g => i < j ∧ sgM ord mo ma (fun _ => True) i j 50 g
def tlX (B q cl : Nat) : Nat → Nat → Prop := fun b j => psX B b j ∨ (b = B + q ∧ j = 8 * cl + 6)
def tlB (B q cl : Nat) : Nat → Nat → Prop := fun b j => psB B b j ∨ (b = B + q ∧ j = 8 * cl + 6)
section
variable {n : Nat} {E : zE} {S : zS} {M M' : zH} {B : Nat} {ord : Bool} {tb : Nat → Int} {l cl s : Nat} {st : Nat → Int} {len pt wm : Nat} {kd tm : Int} {mk : Nat → Nat}
theorem MBd.ag {X : Nat → Nat → Prop} {s' : Nat} (h : MBd M B s') (hA : zAg X M M') (h1 : ¬ X (B + 105) 19) (h2 : ¬ X (B + 105) 18) : MBd M' B s' := ⟨by rw [(hA _ _ h1).1]; exact h.1, by rw [(hA _ _ h2).1]; exact h.2⟩
theorem sim_tail (hS : ShOK S B) (hn : 1000 ≤ n) {q : Nat} (hq : q = 115 ∨ q = 134) (hcl : cl < 12) {G H : zS → zH → Option zH} {R : zH → zH → Nat → Prop}
  (hG : ∀ (S' : zS), ShOK S' B → ∀ MM mo ma nc, MK MM B ord tb l s mo ma nc pt → ∃ MM1, MK MM1 B ord tb l s mo ma nc pt ∧ R MM MM1 nc ∧ G S' MM = if wis tb l s 294 = true then (F_Mo_next n E S' (B + 105) MM1).bind fun q_13 => (F_Mo_readExpression n E S' (B + 105) (iI 1) q_13).bind fun q_14 => H S' q_14 else H S' MM1)
  (hH : ∀ (S' : zS), ShOK S' B → ∀ MM, H S' MM = some (setI MM (B + q) (8 * cl + 6) (mI MM (B + 105) 23)))
  (hC : CS M B ord tb l cl s st len pt wm) (hk : KT M B cl kd tm mk) (hl : len ≤ s) :
  (∃ (M' : zH) (s' : Nat), F_Ps_readClause_b72 n E S (B + 69) M = some (false, M') ∧ zAg (ctX B cl) M M' ∧ mI M' (B + 67) 3 = iI (s' : Int) ∧ s' ≤ l ∧ ∀ (S' : zS), ShOK S' B → ∀ MM mo ma nc, MK MM B ord tb l s mo ma nc pt → nc ≤ s → ∃ MM1 MM', R MM MM1 nc ∧ G S' MM = some MM' ∧ MBd MM' B s' ∧ zAg (tlB B q cl) MM1 MM') ∨
  (∃ (M' : zH) (s' : Nat) (st' : Nat → Int) (len' pt' wm' : Nat) (tg : Option ((Nat → Int) → Option Int)), F_Ps_readClause_b72 n E S (B + 69) M = some (true, M') ∧ zAg (ctX B cl) M M' ∧ CB M' B ord tb l (cl + 1) s' st' len' pt' ∧ KT M' B cl kd tm (fun i => if i < 3 then mk i else len') ∧ (mI M' (B + 74) cl = iI (wm' : Int) ∧ wm' < 524288 ∧ wsub wm wm') ∧ (∀ p, p < len → st' p = st p) ∧ tgC st' (nwo ord) len len' wm' tg ∧ (len' + s ≤ len + s' ∧ s ≤ s') ∧ ∀ (S' : zS), ShOK S' B → ∀ MM mo ma nc, MK MM B ord tb l s mo ma nc pt → nc ≤ s → ∃ MM1 MM' mo' ma' nc', R MM MM1 nc ∧ G S' MM = some MM' ∧ MK MM' B ord tb l s' mo' ma' nc' pt' ∧ zAg (tlX B q cl) MM1 MM' ∧ NC MM' B q cl 6 (nc' : Nat) ∧ (∀ p, p < nc → mo' p = mo p ∧ ma' p = ma p) ∧ (∀ p, nc ≤ p → p < nc' → 0 ≤ mo' p ∧ mo' p ≤ 30 ∧ 0 ≤ ma' p ∧ ma' p ≤ 1000) ∧ nc' + s ≤ nc + s' ∧ tgM ord mo' ma' nc nc' tg) := by
  have hsl := hC.1.2.1
  have hl4 := hC.1.1.1
  have hH1 : ∀ MM : zH, zAg (fun b j => b = B + q ∧ j = 8 * cl + 6) MM (setI MM (B + q) (8 * cl + 6) (mI MM (B + 105) 23)) := fun MM => zAg.rfl'.setI ⟨rfl, rfl⟩
  have hw : isWd tb l s 9 = wis tb l s 294 := (wd_all (tb := tb) hsl).2.2.2.1
  have red : F_Ps_readClause_b72 n E S (B + 69) M = if wis tb l s 294 = true then (F_Ta_advance n E S (B + 67) M).bind fun q_8 => (F_Ps_readTest_D n E S 10 (B + 69, iI ((0 : Nat) : Int), q_8)).bind fun q_9 => if q_9.1 = true then F_Ps_readClause_b101 n E S (B + 69) q_9.2 else some (false, q_9.2) else F_Ps_readClause_b101 n E S (B + 69) M := by
    unfold F_Ps_readClause_b72
    rw [hS.g69_1, obs, hS.ck67, obs, s_atWord hS hn hC.1 (by decide), obs, hw]
    rfl
  rw [red]
  cases hv : wis tb l s 294
  · rw [if_neg Bool.false_ne_true]
    obtain ⟨M1, e1, g1, k1, w1, hA1⟩ := hC.close (n := n) (E := E) hS hn hk
    refine Or.inr ⟨M1, s, st, len, pt, wm, none, ?_, hA1, g1, k1, ⟨w1, hC.2.2.2.2.2, wsub.rfl'⟩, fun _ _ => rfl, rfl, ⟨by omega, by omega⟩, fun S' hS' MM mo ma nc h hnc => ?_⟩
    · unfold F_Ps_readClause_b101
      rw [hS.g69_0, obs, hS.ck70, obs, e1, obs]
    · obtain ⟨MM1, h1, r1, e2⟩ := hG S' hS' MM mo ma nc h
      rw [hv, if_neg Bool.false_ne_true, hH S' hS'] at e2
      refine ⟨MM1, _, mo, ma, nc, r1, e2, h1.ag (hH1 MM1) (fun j q => by omega) (fun b j q => by omega), (hH1 MM1).mono (fun b j q => Or.inr q), ?_, fun p _ => ⟨rfl, rfl⟩, fun p p1 p2 => by omega, by omega, rfl⟩
      show mI _ (B + q) (8 * cl + 6) = _
      rw [mI_s, h1.2.1.1]
  · rw [if_pos rfl]
    have k1' : kdT tb l s = 1 := by unfold wis at hv; exact (of_decide_eq_true hv).1
    have sb := nx_b (tb := tb) hsl
    have sb2 := sb.2.2 (by omega)
    obtain ⟨M1, e1, g1, hA1⟩ := hC.adv (n := n) (E := E) hS hn
    have hk1 := hk.ag hA1
    rw [e1, obs]
    rcases sim_testD hS hn 10 0 (by omega) (by omega) M1 (nx tb l s) st len pt wm g1 (by omega) with ⟨M2, s2, e2, hA2, p2, b2⟩ | ⟨M2, s2, st2, len2, pt2, wm2, g, e2, hA2, g2, oc, om, ec⟩
    · refine Or.inl ⟨M2, s2, by rw [e2, obs, if_neg Bool.false_ne_true], clX_ct (hA1.trans hA2), p2, b2.2.1, fun S' hS' MM mo ma nc h hnc => ?_⟩
      obtain ⟨MM1, h1, r1, e3⟩ := hG S' hS' MM mo ma nc h
      obtain ⟨MM2, e4, h2, z2⟩ := h1.next (n := n) (E := E) hS' hn
      obtain ⟨MM3, e5, h3, z3⟩ := x_bad (n := n) (E := E) hS' hn hl4 (Or.inr ⟨rfl, rfl⟩) b2 h2 (by omega)
      rw [hv, if_pos rfl, e4, obs, e5, obs, hH S' hS'] at e3
      exact ⟨MM1, _, r1, e3, h3.ag (hH1 MM3) (by omega) (by omega), (((toB z2).trans z3).mono (fun b j q => Or.inl q)).trans ((hH1 MM3).mono (fun b j q => Or.inr q))⟩
    · obtain ⟨c1, c2, c3, c4, c5, c6, c7⟩ := oc
      have hs2l := g2.1.2.1
      have pt5 := g2.2.1.2.2
      obtain ⟨M3, e3, g3, k3, w3, hA3⟩ := g2.close (n := n) (E := E) hS hn (hk1.ag hA2)
      refine Or.inr ⟨M3, s2, st2, len2, pt2, wm2, some g, ?_, (clX_ct (hA1.trans hA2)).trans hA3, g3, k3, ⟨w3, g2.2.2.2.2.2, c4⟩, c1, ⟨c2.lt (by omega), ec.1, c2.up (by omega), c3⟩, ⟨by omega, by omega⟩, fun S' hS' MM mo ma nc h hnc => ?_⟩
      · rw [e2, obs, if_pos rfl]
        unfold F_Ps_readClause_b101
        rw [hS.g69_0, obs, hS.ck70, obs, e3, obs]
      · obtain ⟨MM1, h1, r1, e4⟩ := hG S' hS' MM mo ma nc h
        obtain ⟨MM2, e5, h2, z2⟩ := h1.next (n := n) (E := E) hS' hn
        obtain ⟨MM3, mo3, ma3, nc3, e6, h3, z3, n3, cd⟩ := xt_ok (n := n) (E := E) hS' hn hl4 om ec.2.1 ec.2.2 hs2l h2 (by omega)
        rw [hv, if_pos rfl, e5, obs, e6, obs, hH S' hS'] at e4
        refine ⟨MM1, _, mo3, ma3, nc3, r1, e4, h3.ag (hH1 MM3) (fun j q => by omega) (fun b j q => by omega), ((z2.trans z3).mono (fun b j q => Or.inl q)).trans ((hH1 MM3).mono (fun b j q => Or.inr q)), ?_, cd.1, cd.2.2, by omega, cd.2.1.lt (by omega), cd.2.1.up (by omega)⟩
        show mI _ (B + q) (8 * cl + 6) = _
        rw [mI_s, h3.2.1.1]
end
