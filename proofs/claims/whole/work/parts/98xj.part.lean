/-! law and orders: the simulation: what is said; a part -/
def preP (L : Int) (Pl : List (Int × Int)) : Prop := Pl = [] ∨ ∃ y t, Pl = y :: t ∧ bnd y.1 < L
def nwo (ord : Bool) : Nat := if ord = true then 19 else 9
/-- what the model has ahead of it -/
def Pre (MM : zH) (B : Nat) (ord : Bool) (tb : Nat → Int) (l s pt dp : Nat) (L te : Int) (Pl : List (Int × Int)) (mo ma : Nat → Int) (nc : Nat) : Prop := MH MM B ord tb l s Pl mo ma nc pt dp ∧ preP L Pl ∧ (te = 2 → inn Pl ≠ 32) ∧ nc + Pl.length ≤ s
def BadP (n : Nat) (E : zE) (S : zS) (B : Nat) (ord : Bool) (tb : Nat → Int) (l : Nat) (L tt t0 te : Int) (dp s pt s' : Nat) : Prop := s ≤ s' ∧ s' ≤ l ∧ ∀ (S' : zS), ShOK S' B → ∀ MM Pl mo ma nc, Pre MM B ord tb l s pt dp L te Pl mo ma nc → ∃ k t' MM', Rc n E S' B tt k t0 MM t' MM' ∧ k + 2 * s ≤ 2 * s' + 2 ∧ MBad MM' B s' ∧ zAg (psB B) MM MM'
def OkM (n : Nat) (E : zE) (S : zS) (B : Nat) (ord : Bool) (tb : Nat → Int) (l : Nat) (L tt t0 te : Int) (dp s pt s' pt' : Nat) (f : (Nat → Int) → Option Int) : Prop := ∀ (S' : zS), ShOK S' B → ∀ MM Pl mo ma nc, Pre MM B ord tb l s pt dp L te Pl mo ma nc → ∃ k MM' Q mo' ma' nc', Rc n E S' B tt k t0 MM te MM' ∧ k + 2 * s ≤ 2 * s' ∧ MH MM' B ord tb l s' (Q ++ Pl) mo' ma' nc' pt' dp ∧ zAg (psX B) MM MM' ∧ (∀ x ∈ Q, L ≤ bnd x.1) ∧ nc' + Q.length + s ≤ nc + s' ∧ cdOK ord mo ma nc (flu Q (mo', ma', nc')) (pt' - pt) f
def OkC (ord : Bool) (st : Nat → Int) (len pt wm s : Nat) (st' : Nat → Int) (len' pt' wm' s' : Nat) (f : (Nat → Int) → Option Int) : Prop := (∀ p, p < len → st' p = st p) ∧ sgC st' (nwo ord) len len' (pt' - pt) f ∧ dpw wm' f ∧ wsub wm wm' ∧ len' + s ≤ len + s' ∧ s < s' ∧ pt < pt'
def Sim (n : Nat) (E : zE) (S : zS) (B : Nat) (ord : Bool) (tb : Nat → Int) (l cl : Nat) (L tt t0 te : Int) (dp s : Nat) (st : Nat → Int) (len pt wm : Nat) (M : zH) (EC : Nat → ((Nat → Int) → Option Int) → Prop) (G : Option (Bool × zH)) : Prop :=
  (∃ (M' : zH) (s' : Nat), G = some (false, M') ∧ zAg (clX B cl) M M' ∧ mI M' (B + 67) 3 = iI (s' : Int) ∧ BadP n E S B ord tb l L tt t0 te dp s pt s') ∨
  (∃ (M' : zH) (s' : Nat) (st' : Nat → Int) (len' pt' wm' : Nat) (f : (Nat → Int) → Option Int), G = some (true, M') ∧ zAg (clX B cl) M M' ∧ CS M' B ord tb l cl s' st' len' pt' wm' ∧ OkC ord st len pt wm s st' len' pt' wm' s' f ∧ OkM n E S B ord tb l L tt t0 te dp s pt s' pt' f ∧ EC s' f)
theorem bnd31 {o : Int} (h : 1 ≤ bnd o) : ¬ 31 ≤ o := fun q => by unfold bnd at h; rw [if_pos q] at h; omega
theorem inn_app {R : List (Int × Int)} : ∀ (Q : List (Int × Int)), (∀ x ∈ Q, 1 ≤ bnd x.1) → inn (Q ++ R) = inn R := by
  intro Q
  induction Q with
  | nil => intro _; rfl
  | cons x t ih =>
    intro h
    have e : inn (x :: (t ++ R)) = if 31 ≤ x.1 then x.1 else inn (t ++ R) := rfl
    rw [List.cons_append, e, if_neg (bnd31 (h x (List.mem_cons_self ..)))]
    exact ih (fun y hy => h y (List.mem_cons_of_mem _ hy))
section
variable {ord : Bool} {mo ma : Nat → Int} {nc : Nat}
theorem cd_word {o a : Int} {k : Nat} (h : 1 ≤ o) (h2 : o < 20) (hl : lv ord o a) (hk : li ord o a = k) : cdOK ord mo ma nc (upF mo nc o, upF ma nc a, nc + 1) 1 (fun w => some (w k)) := by
  have := cd_leaf (mo := mo) (ma := ma) (nc := nc) h2 hl
  have e : (fun w : Nat → Int => some (if o = 0 then a else w (li ord o a))) = fun w => some (w k) := funext (fun w => by rw [if_neg (by omega), hk])
  rw [e] at this
  exact this
theorem cd_num {a : Int} (hl : lv ord 0 a) : cdOK ord mo ma nc (upF mo nc 0, upF ma nc a, nc + 1) 1 (fun _ => some a) := by
  have := cd_leaf (mo := mo) (ma := ma) (nc := nc) (show (0 : Int) < 20 by decide) hl
  have e : (fun w : Nat → Int => some (if (0 : Int) = 0 then a else w (li ord 0 a))) = fun _ => some a := funext (fun w => by rw [if_pos rfl])
  rw [e] at this
  exact this
end
section
variable {n : Nat} {E : zE} {S : zS} {M M' : zH} {B : Nat} {ord : Bool} {tb : Nat → Int} {l cl s s' dp : Nat} {st : Nat → Int} {len pt wm : Nat} {tt t0 te L : Int} {rc : Nat × Int32 × zH → Option (Bool × zH)}
theorem s_num (hS : ShOK S B) (h : LC M B tb l s) : F_Ta_number n E S (B + 67) M = some (iI (vT tb l s), M) := by
  unfold F_Ta_number
  rw [hS.i67, obs, h.2.2.2.2.2]
/-- where a part may begin -/
def pst (tb : Nat → Int) (l s : Nat) (t0 : Int) : Prop := t0 = 1 ∨ (t0 = 0 ∧ wis tb l s 14836 = false ∧ ¬ (kdT tb l s = 3 ∧ tb s = 40))
theorem rc_p {Pl : List (Int × Int)} {mo ma : Nat → Int} {nc lf op : Nat} {t' : Int} (hS : ShOK S B) (h : MG M B tb l s Pl mo ma nc lf op) (hst : pst tb l s t0) (e : F_Mo_readPart n E S (B + 105) M = some (iI t', M')) : Rc n E S B tt 1 t0 M t' M' := by
  rcases hst with q | ⟨q, h1, h2⟩
  · rw [q]; exact rc_1 hS h.2.2 e
  · rw [q]; exact rc_0 hS h.2.2 ((m_plPart hS h h1 h2).trans e)
theorem okm_leaf {o a : Int} {f : (Nat → Int) → Option Int} (hst : pst tb l s t0) (hs : s < s') (hcd : ∀ mo ma nc, cdOK ord mo ma nc (upF mo nc o, upF ma nc a, nc + 1) 1 f) (hm : ∀ (S' : zS), ShOK S' B → ∀ MM Pl mo ma nc, Pre MM B ord tb l s pt dp L te Pl mo ma nc → ∃ MM', F_Mo_readPart n E S' (B + 105) MM = some (iI te, MM') ∧ MG MM' B tb l s' Pl (upF mo nc o) (upF ma nc a) (nc + 1) (pt + 1) dp ∧ zAg (psX B) MM MM') : OkM n E S B ord tb l L tt t0 te dp s pt s' (pt + 1) f := fun S' hS' MM Pl mo ma nc hp => by
  obtain ⟨MM', e, g, z⟩ := hm S' hS' MM Pl mo ma nc hp
  exact ⟨1, MM', [], _, _, _, rc_p hS' hp.1.1 hst e, by omega, hp.1.to g z, z, fun x hx => absurd hx List.not_mem_nil, by rw [List.length_nil]; omega, by rw [show pt + 1 - pt = 1 by omega]; exact hcd mo ma nc⟩
theorem bad_leaf (hst : pst tb l s t0) (h1 : s ≤ s') (h2 : s' ≤ l) (hm : ∀ (S' : zS), ShOK S' B → ∀ MM Pl mo ma nc, Pre MM B ord tb l s pt dp L te Pl mo ma nc → ∃ t' MM', F_Mo_readPart n E S' (B + 105) MM = some (iI t', MM') ∧ MBad MM' B s' ∧ zAg (psB B) MM MM') : BadP n E S B ord tb l L tt t0 te dp s pt s' := ⟨h1, h2, fun S' hS' MM Pl mo ma nc hp => by
  obtain ⟨t', MM', e, g, z⟩ := hm S' hS' MM Pl mo ma nc hp
  exact ⟨1, t', MM', rc_p hS' hp.1.1 hst e, by omega, g, z⟩⟩
theorem m_sq {MM : zH} {Pl : List (Int × Int)} {mo ma : Nat → Int} {nc lf op : Nat} (hS : ShOK S B) (hn : 1000 ≤ n) (h : MG MM B tb l s Pl mo ma nc lf op) (hq : kdT tb l s = 3 ∧ tb s = 91) (hp : Pl.length < 400) (ho : op < 8) : ∃ MM', F_Mo_readPart n E S (B + 105) MM = some (iI 1, MM') ∧ MG MM' B tb l (nx tb l s) ((32, 0) :: Pl) mo ma nc lf (op + 1) ∧ zAg (psX B) MM MM' := by
  obtain ⟨M1, e1, h1, hA1⟩ := m_open (n := n) (E := E) hS hn h hp ho (o := 32) (Or.inr rfl)
  refine ⟨M1, ?_, h1, hA1⟩
  unfold F_Mo_readPart
  rw [hS.ck105, obs, show (91 : Int32) = iI 91 by decide, m_isSign hS h.1 (by omega) (by omega), obs, if_pos (decide_eq_true hq), show (32 : Int32) = iI 32 by decide, e1, obs, iL1]
theorem m_sq0 {MM : zH} {Pl : List (Int × Int)} {mo ma : Nat → Int} {nc lf : Nat} (hS : ShOK S B) (h : MG MM B tb l s Pl mo ma nc lf 8) (hk : nc + Pl.length ≤ 400) (hq : kdT tb l s = 3 ∧ tb s = 91) : ∃ MM', F_Mo_readPart n E S (B + 105) MM = some (iI 1, MM') ∧ MBad MM' B s ∧ zAg (psB B) MM MM' := by
  obtain ⟨M1, e1, h1, hA1⟩ := m_open0 (n := n) (E := E) hS h hk (o := 32)
  refine ⟨M1, ?_, h1, hA1⟩
  unfold F_Mo_readPart
  rw [hS.ck105, obs, show (91 : Int32) = iI 91 by decide, m_isSign hS h.1 (by omega) (by omega), obs, if_pos (decide_eq_true hq), e1, obs, iL1]
theorem sim_sq (hS : ShOK S B) (hn : 1000 ≤ n) (hC : CS M B ord tb l cl s st len pt wm) (hl : len ≤ s) (hd : dp ≤ 8) (hst : pst tb l s t0) (hq : kdT tb l s = 3 ∧ tb s = 91) (hrc : dp < 8 → ∀ M s st len pt wm, CS M B ord tb l cl s st len pt wm → len ≤ s → Sim n E S B ord tb l cl 5 tt 1 3 (dp + 1) s st len pt wm M (fun s' _ => opS tb l s' = -1) (rc (B + 69, iI ((dp + 1 : Nat) : Int), M))) : Sim n E S B ord tb l cl 7 tt t0 3 dp s st len pt wm M (fun _ _ => True) (F_Ps_readPart n E S rc (B + 69) (iI (dp : Int)) M) := by
  have eq : F_Ps_readPart n E S rc (B + 69) (iI (dp : Int)) M = (F_Ps_readSumInBrackets n E S rc (B + 69) (iI (dp : Int)) M).bind fun q => some (q.1, q.2) := by
    unfold F_Ps_readPart
    rw [hS.g69_1, obs, hS.ck67, obs, show (91 : Int32) = iI 91 by decide, s_atSign hS hC.1 (by omega) (by omega), obs, if_pos (decide_eq_true hq)]
  rw [eq]
  have sb := nx_b (tb := tb) hC.1.2.1
  have sb2 := sb.2.2 (by omega)
  have hsl := kdT_l (tb := tb) (l := l) (s := s) (by omega)
  have hl4 := hC.1.1.1
  by_cases c : dp < 8
  · obtain ⟨M1, e1, g1, hA1⟩ := hC.adv (n := n) (E := E) hS hn
    rcases hrc c M1 (nx tb l s) st len pt wm g1 (by omega) with ⟨M2, s2, e2, hA2, p2, b2⟩ | ⟨M2, s2, st2, len2, pt2, wm2, f, e2, hA2, g2, oc, om, ec⟩
    · refine Or.inl ⟨M2, s2, ?_, hA1.trans hA2, p2, by have := b2.1; omega, b2.2.1, fun S' hS' MM Pl mo ma nc hp => ?_⟩
      · unfold F_Ps_readSumInBrackets
        rw [show (8 : Int32) = iI 8 by decide, if_pos (cltT (by omega) (by omega) (by omega)), hS.g69_1, obs, hS.ck67, obs, e1, obs, iL1, iI_add, show (dp : Int) + 1 = ((dp + 1 : Nat) : Int) by omega, e2, obs, if_neg Bool.false_ne_true, obs]
      · obtain ⟨hp1, hp2, hp3, hp4⟩ := hp
        obtain ⟨MM1, x1, y1, z1⟩ := m_sq (n := n) (E := E) hS' hn hp1.1 hq (by omega) c
        obtain ⟨k, t', MM2, r2, kk, bd, az⟩ := b2.2.2 S' hS' MM1 ((32, 0) :: Pl) mo ma nc ⟨hp1.to y1 z1, Or.inr ⟨_, _, rfl, by decide⟩, fun q => by omega, by rw [List.length_cons]; omega⟩
        exact ⟨1 + k, t', MM2, (rc_p hS' hp1.1 hst x1).trans r2, by omega, bd, (toB z1).trans az⟩
    · by_cases d : kdT tb l s2 = 3 ∧ tb s2 = 93
      · obtain ⟨M3, e3, g3, hA3⟩ := g2.adv (n := n) (E := E) hS hn
        have tb2 := (nx_b (tb := tb) g2.1.2.1).2.2 (by omega)
        obtain ⟨c1, c2, c3, c4, c5, c6, c7⟩ := oc
        refine Or.inr ⟨M3, nx tb l s2, st2, len2, pt2, wm2, f, ?_, (hA1.trans hA2).trans hA3, g3, ⟨c1, c2, c3, c4, by omega, by omega, c7⟩, fun S' hS' MM Pl mo ma nc hp => ?_, trivial⟩
        · unfold F_Ps_readSumInBrackets
          rw [show (8 : Int32) = iI 8 by decide, if_pos (cltT (by omega) (by omega) (by omega)), hS.g69_1, obs, hS.ck67, obs, e1, obs, iL1, iI_add, show (dp : Int) + 1 = ((dp + 1 : Nat) : Int) by omega, e2, obs, if_pos rfl, show (93 : Int32) = iI 93 by decide, s_atSign hS g2.1 (by omega) (by omega), obs, if_pos (decide_eq_true d), e3, obs, obs]
        · obtain ⟨hp1, hp2, hp3, hp4⟩ := hp
          obtain ⟨MM1, x1, y1, z1⟩ := m_sq (n := n) (E := E) hS' hn hp1.1 hq (by omega) c
          obtain ⟨k, MM2, Q, mo2, ma2, nc2, r2, kk, h2, z2, q2, b2, cd⟩ := om S' hS' MM1 ((32, 0) :: Pl) mo ma nc ⟨hp1.to y1 z1, Or.inr ⟨_, _, rfl, by decide⟩, fun q => by omega, by rw [List.length_cons]; omega⟩
          have hs2l := g2.1.2.1
          obtain ⟨MM3, e4, g4, z4⟩ := m_bsSq (n := n) (E := E) (x1 := iI tt) hS' hn ec h2.1 ((inn_app Q (fun x hx => by have := q2 x hx; omega)).trans rfl) d q2 (by omega)
          have fl := flu_len Q (mo2, ma2, nc2)
          dsimp only at fl
          exact ⟨1 + k + 1, MM3, [], _, _, _, ((rc_p hS' hp1.1 hst x1).trans r2).trans (rc_3 hS' h2.1.2.2 e4), by omega, h2.to g4 z4, (z1.trans z2).trans z4, fun x hx => absurd hx List.not_mem_nil, by rw [List.length_nil]; omega, cd⟩
      · refine Or.inl ⟨M2, s2, ?_, hA1.trans hA2, g2.1.2.2.2.1, by have := oc.2.2.2.2.2.1; omega, g2.1.2.1, fun S' hS' MM Pl mo ma nc hp => ?_⟩
        · unfold F_Ps_readSumInBrackets
          rw [show (8 : Int32) = iI 8 by decide, if_pos (cltT (by omega) (by omega) (by omega)), hS.g69_1, obs, hS.ck67, obs, e1, obs, iL1, iI_add, show (dp : Int) + 1 = ((dp + 1 : Nat) : Int) by omega, e2, obs, if_pos rfl, show (93 : Int32) = iI 93 by decide, s_atSign hS g2.1 (by omega) (by omega), obs, if_neg (fun z => d (of_decide_eq_true z)), obs]
        · obtain ⟨hp1, hp2, hp3, hp4⟩ := hp
          obtain ⟨MM1, x1, y1, z1⟩ := m_sq (n := n) (E := E) hS' hn hp1.1 hq (by omega) c
          obtain ⟨k, MM2, Q, mo2, ma2, nc2, r2, kk, h2, z2, q2, b2, cd⟩ := om S' hS' MM1 ((32, 0) :: Pl) mo ma nc ⟨hp1.to y1 z1, Or.inr ⟨_, _, rfl, by decide⟩, fun q => by omega, by rw [List.length_cons]; omega⟩
          obtain ⟨MM3, e4, g4, z4⟩ := m_bsSq0 (n := n) (E := E) (x1 := iI tt) hS' hn ec h2.1 (by have := g2.1.2.1; rw [List.length_append, List.length_cons]; omega) ((inn_app Q (fun x hx => by have := q2 x hx; omega)).trans rfl) d
          exact ⟨1 + k + 1, 3, MM3, ((rc_p hS' hp1.1 hst x1).trans r2).trans (rc_3 hS' h2.1.2.2 e4), by omega, g4, (toB (z1.trans z2)).trans z4⟩
  · have e8 : dp = 8 := by omega
    refine Or.inl ⟨M, s, ?_, zAg.rfl', hC.1.2.2.2.1, bad_leaf hst (Nat.le_refl _) hC.1.2.1 (fun S' hS' MM Pl mo ma nc hp => ?_)⟩
    · unfold F_Ps_readSumInBrackets
      rw [show (8 : Int32) = iI 8 by decide, if_neg (cltF (by omega) (by omega) (by omega)), obs]
    · have h1 := hp.1.1
      rw [e8] at h1
      obtain ⟨MM1, x1, y1, z1⟩ := m_sq0 (n := n) (E := E) hS' h1 (by have := hp.2.2.2; omega) hq
      exact ⟨1, MM1, x1, y1, z1⟩
end
