/-! law and orders: texts, both sides -/
abbrev Fn : Type := (Nat → Int) → Option Int
/-- a clause: its kind, times, sums, test -/
abbrev Ds : Type := Int × Int × Fn × Fn × Option Fn
def qo (ord : Bool) : Nat := if ord = true then 134 else 115
def QC (M : zH) (B : Nat) (ord : Bool) (st : Nat → Int) (len c : Nat) (D : Ds) : Prop := ∃ (mk : Nat → Nat) (wm : Nat), KT M B c D.1 D.2.1 mk ∧ (mI M (B + 74) c = iI (wm : Int) ∧ wm < 524288) ∧ (0 ≤ D.1 ∧ D.1 ≤ 3 ∧ 1 ≤ D.2.1 ∧ D.2.1 ≤ 20) ∧ (D.1 ≠ 3 → (sgC st (nwo ord) (mk 0) (mk 1) 50 D.2.2.1 ∧ dpw wm D.2.2.1) ∧ (ord = true → sgC st (nwo ord) (mk 1) (mk 2) 50 D.2.2.2.1 ∧ dpw wm D.2.2.2.1)) ∧ tgC st (nwo ord) (mk 2) (mk 3) wm D.2.2.2.2 ∧ (mk 0 ≤ mk 1 ∧ mk 1 ≤ mk 2 ∧ mk 2 ≤ mk 3 ∧ mk 3 ≤ len)
def QM (MM : zH) (B : Nat) (ord : Bool) (mo ma : Nat → Int) (nc c : Nat) (D : Ds) : Prop := ∃ sg : Nat → Nat, NC MM B (qo ord) c 0 D.1 ∧ (∀ p, ord = true ∨ 3 ≤ p → 1 ≤ p → p < 7 → NC MM B (qo ord) c p (sg p : Nat) ∧ sg p ≤ nc) ∧ (ord = true → NC MM B 134 c 7 D.2.1) ∧ (D.1 ≠ 3 → (ord = false → sgM ord mo ma (fun _ => True) (sg 3) (sg 4) 50 D.2.2.1) ∧ (ord = true → sgM ord mo ma (fun _ => True) (sg 1) (sg 2) 50 D.2.2.1 ∧ sgM ord mo ma (fun _ => True) (sg 3) (sg 4) 50 D.2.2.2.1)) ∧ (ord = true → D.1 = 3 → sg 1 = sg 2 ∧ sg 3 = sg 4) ∧ tgM ord mo ma (sg 5) (sg 6) D.2.2.2.2
def cBd (mo ma : Nat → Int) (nc : Nat) : Prop := ∀ p, p < nc → 0 ≤ mo p ∧ mo p ≤ 30 ∧ 0 ≤ ma p ∧ ma p ≤ 1000
theorem tgC.cg {st st' : Nat → Int} {nw i j wm : Nat} {tg : Option Fn} (h : tgC st nw i j wm tg) (e : ∀ p, i ≤ p → p < j → st' p = st p) : tgC st' nw i j wm tg := by
  cases tg with
  | none => exact h
  | some g => exact ⟨h.1, h.2.1, h.2.2.1.cg e, h.2.2.2⟩
theorem tgM.cg {ord : Bool} {mo ma mo' ma' : Nat → Int} {i j : Nat} {tg : Option Fn} (h : tgM ord mo ma i j tg) (e : ∀ p, i ≤ p → p < j → mo' p = mo p ∧ ma' p = ma p) : tgM ord mo' ma' i j tg := by
  cases tg with
  | none => exact h
  | some g => exact ⟨h.1, h.2.cg e⟩
section
variable {M M' MM MM' : zH} {B : Nat} {ord : Bool} {st st' : Nat → Int} {len len' c c' nc nc' : Nat} {D : Ds} {mo ma mo' ma' : Nat → Int}
theorem QC.ag (h : QC M B ord st len c D) (hA : zAg (ctX B c') M M') (hc : c < c') (e : ∀ p, p < len → st' p = st p) (hl : len ≤ len') : QC M' B ord st' len' c D := by
  obtain ⟨mk, wm, ⟨k1, k2, k3⟩, ⟨w1, w2⟩, b, s, t, m1, m2, m3, m4⟩ := h
  refine ⟨mk, wm, ⟨by rw [(hA _ _ (by unfold ctX; omega)).1]; exact k1, by rw [(hA _ _ (by unfold ctX; omega)).1]; exact k2, fun i hi => by rw [(hA _ _ (by unfold ctX; omega)).1]; exact k3 i hi⟩, ⟨by rw [(hA _ _ (by unfold ctX; omega)).1]; exact w1, w2⟩, b, fun q => ?_, t.cg (fun p p1 p2 => e p (by omega)), m1, m2, m3, by omega⟩
  obtain ⟨s1, s2⟩ := s q
  exact ⟨⟨s1.1.cg (fun p p1 p2 => e p (by omega)), s1.2⟩, fun o => ⟨(s2 o).1.cg (fun p p1 p2 => e p (by omega)), (s2 o).2⟩⟩
theorem QM.ag {X : Nat → Nat → Prop} (h : QM MM B ord mo ma nc c D) (hA : zAg X MM MM') (hX : ∀ j, 8 * c ≤ j → j < 8 * c + 8 → ¬ X (B + qo ord) j) (e : ∀ p, p < nc → mo' p = mo p ∧ ma' p = ma p) (hn : nc ≤ nc') : QM MM' B ord mo' ma' nc' c D := by
  obtain ⟨sg, h0, h1, h7, s, z, t⟩ := h
  have l5 := (h1 5 (by omega) (by omega) (by omega)).2
  have l6 := (h1 6 (by omega) (by omega) (by omega)).2
  have l4 := (h1 4 (by omega) (by omega) (by omega)).2
  unfold NC at h0 h1 h7
  refine ⟨sg, ?_, fun p q p1 p2 => ⟨?_, by have := (h1 p q p1 p2).2; omega⟩, fun o => ?_, fun q => ⟨fun o => ((s q).1 o).cg (fun p p1 p2 => e p (by omega)), fun o => ?_⟩, z, t.cg (fun p p1 p2 => e p (by omega))⟩
  · unfold NC; rw [(hA _ _ (hX _ (by omega) (by omega))).1]; exact h0
  · unfold NC; rw [(hA _ _ (hX _ (by omega) (by omega))).1]; exact (h1 p q p1 p2).1
  · have hq : qo ord = 134 := by rw [o]; rfl
    unfold NC
    rw [← hq, (hA _ _ (hX _ (by omega) (by omega))).1, hq]; exact h7 o
  · have l2 := (h1 2 (Or.inl o) (by omega) (by omega)).2
    exact ⟨((s q).2 o).1.cg (fun p p1 p2 => e p (by omega)), ((s q).2 o).2.cg (fun p p1 p2 => e p (by omega))⟩
end
/-- what the model must have ahead of a clause -/
def MP (MM : zH) (B : Nat) (ord : Bool) (tb : Nat → Int) (l cl s : Nat) (mo ma : Nat → Int) (nc pt : Nat) : Prop := MK MM B ord tb l s mo ma nc pt ∧ ((∀ i, i < 4 → mJ MM (B + 122) i = jJ (cH i)) ∧ ∀ i, i < 4 → mJ MM (B + 133) i = jJ (cA i)) ∧ mI MM (B + 105) 21 = iI (cl : Int) ∧ nc ≤ s ∧ mI MM (B + 105) 18 = iI (-1)
def ClSim (n : Nat) (E : zE) (S : zS) (B : Nat) (ord : Bool) (tb : Nat → Int) (l : Nat) (RD : zS → zH → Option zH) (M : zH) (cl s : Nat) (st : Nat → Int) (len pt : Nat) : Prop :=
  (∃ (M' : zH) (s' : Nat), F_Ps_readClause n E S (B + 69) M = some (false, M') ∧ zAg (ctX B cl) M M' ∧ mI M' (B + 67) 3 = iI (s' : Int) ∧ s' ≤ l ∧ ∀ (S' : zS), ShOK S' B → ∀ MM mo ma nc, MP MM B ord tb l cl s mo ma nc pt → ∃ MM', RD S' MM = some MM' ∧ MBd MM' B s' ∧ zAg (lwB B (qo ord) cl) MM MM') ∨
  (∃ (M' : zH) (s' : Nat) (st' : Nat → Int) (len' pt' : Nat) (D : Ds), F_Ps_readClause n E S (B + 69) M = some (true, M') ∧ zAg (ctX B cl) M M' ∧ CB M' B ord tb l (cl + 1) s' st' len' pt' ∧ QC M' B ord st' len' cl D ∧ (∀ p, p < len → st' p = st p) ∧ (len' + s ≤ len + s' ∧ s < s' ∧ len ≤ len') ∧ ∀ (S' : zS), ShOK S' B → ∀ MM mo ma nc, MP MM B ord tb l cl s mo ma nc pt → ∃ MM' mo' ma' nc', RD S' MM = some MM' ∧ MP MM' B ord tb l (cl + 1) s' mo' ma' nc' pt' ∧ zAg (lwX B (qo ord) cl) MM MM' ∧ QM MM' B ord mo' ma' nc' cl D ∧ (∀ p, p < nc → mo' p = mo p ∧ ma' p = ma p) ∧ (∀ p, nc ≤ p → p < nc' → 0 ≤ mo' p ∧ mo' p ≤ 30 ∧ 0 ≤ ma' p ∧ ma' p ≤ 1000) ∧ nc ≤ nc')
def qaX (B : Nat) : Nat → Nat → Prop := fun b j => (b = B + 67 ∧ 2 ≤ j ∧ j ≤ 5) ∨ (b = B + 69 ∧ j = 3) ∨ (b = B + 70 ∧ (j = 5 ∨ j = 6)) ∨ (B + 71 ≤ b ∧ b ≤ B + 75)
def qmA (B : Nat) (ord : Bool) : Nat → Nat → Prop := fun b j => psB B b j ∨ (b = B + 105 ∧ (j = 13 ∨ j = 20 ∨ j = 21)) ∨ b = B + qo ord
section
variable {n : Nat} {E : zE} {S : zS} {M M' MM MM' : zH} {B : Nat} {ord : Bool} {tb : Nat → Int} {l cl s s' : Nat} {mo ma : Nat → Int} {nc pt : Nat}
theorem lw_m (h : zAg (lwX B (qo ord) cl) MM MM') : zAg (qmA B ord) MM MM' := h.mono (fun b j q => by
  rcases q with q | q | q
  · exact Or.inl (by unfold psX at q; unfold psB; omega)
  · exact Or.inr (Or.inl (by omega))
  · exact Or.inr (Or.inr q.1))
theorem lb_m (h : zAg (lwB B (qo ord) cl) MM MM') : zAg (qmA B ord) MM MM' := h.mono (fun b j q => by
  rcases q with q | q | q
  · exact Or.inl q
  · exact Or.inr (Or.inl (by omega))
  · exact Or.inr (Or.inr q.1))
theorem qb_m (h : zAg (psB B) MM MM') : zAg (qmA B ord) MM MM' := h.mono (fun b j q => Or.inl q)
theorem qs_m (h : zAg (psX B) MM MM') : zAg (qmA B ord) MM MM' := qb_m (toB h)
theorem qo_b : qo ord = 115 ∨ qo ord = 134 := by cases ord; exact Or.inl rfl; exact Or.inr rfl
theorem MP.next (hS : ShOK S B) (hn : 1000 ≤ n) (h : MP M B ord tb l cl s mo ma nc pt) : ∃ M', F_Mo_next n E S (B + 105) M = some M' ∧ MP M' B ord tb l cl (nx tb l s) mo ma nc pt ∧ zAg (psX B) M M' := by
  obtain ⟨h1, ⟨h2, h3⟩, h4, h5, h6⟩ := h
  obtain ⟨M', e, g, hA⟩ := h1.next (n := n) (E := E) hS hn
  have := (nx_b (tb := tb) h1.1.2.1).1
  exact ⟨M', e, ⟨g, ⟨fun i hi => by rw [(hA _ _ (by unfold psX; omega)).2.1]; exact h2 i hi, fun i hi => by rw [(hA _ _ (by unfold psX; omega)).2.1]; exact h3 i hi⟩, by rw [(hA _ _ (by unfold psX; omega)).1]; exact h4, by omega, by rw [(hA _ _ (by unfold psX; omega)).1]; exact h6⟩, hA⟩
theorem CB.adv {st : Nat → Int} {len : Nat} (hS : ShOK S B) (hn : 1000 ≤ n) (h : CB M B ord tb l cl s st len pt) : ∃ M', F_Ta_advance n E S (B + 67) M = some M' ∧ CB M' B ord tb l cl (nx tb l s) st len pt ∧ zAg (tpX B) M M' := by
  obtain ⟨h1, h2, h3, h4, h5⟩ := h
  obtain ⟨M', e, g, hA⟩ := c_adv (n := n) (E := E) hS hn h1.1 (tE_b h1.2.1).2.1 h1.2.2.2.2.1
  refine ⟨M', e, ⟨g, h2.ag hA (by unfold tpX; omega) (fun j => by unfold tpX; omega), ?_, ?_, h5⟩, hA⟩
  · rw [(hA _ _ (by unfold tpX; omega)).1]; exact h3
  · rw [(hA _ _ (by unfold tpX; omega)).1]; exact h4
theorem et_b19 (hS : ShOK S B) : F_Mo_endText_b19 n E S (B + 105) MM = some (setI (setI MM (B + 105) 20 (iI 0)) (B + 105) 13 (iI 0)) := by
  unfold F_Mo_endText_b19
  rw [show (0 : Int32) = bI false from rfl, hS.zb105, obs, hS.p105, obs]
  rfl
theorem et_A : zAg (fun b j => b = B + 105 ∧ (j = 13 ∨ j = 20)) MM (setI (setI MM (B + 105) 20 (iI 0)) (B + 105) 13 (iI 0)) := (zAg.rfl'.setI ⟨rfl, Or.inr rfl⟩).setI ⟨rfl, Or.inl rfl⟩
/-- the end of a bad text -/
theorem et_bad (hS : ShOK S B) (h : MBd MM B s') : ∃ MM', F_Mo_endText n E S (B + 105) MM = some MM' ∧ MBd MM' B s' ∧ (mI MM' (B + 105) 20 = iI 0 ∧ mI MM' (B + 105) 13 = iI 0) ∧ zAg (qmA B ord) MM MM' := by
  refine ⟨_, ?_, h.ag et_A (by omega) (by omega), ⟨by rw [mI_i (by decide), mI_s], mI_s⟩, et_A.mono (fun b j q => by unfold qmA; omega)⟩
  unfold F_Mo_endText
  rw [hS.i105, obs, h.1, iL0, if_neg (show ¬ iI 1 = iI 0 by decide), et_b19 hS]
/-- the end of a text that goes on -/
theorem et_on (hS : ShOK S B) (h : MK MM B ord tb l s mo ma nc pt) (hk : kdT tb l s ≠ 0) : ∃ MM', F_Mo_endText n E S (B + 105) MM = some MM' ∧ MBd MM' B s ∧ (mI MM' (B + 105) 20 = iI 0 ∧ mI MM' (B + 105) 13 = iI 0) ∧ zAg (qmA B ord) MM MM' := by
  obtain ⟨M1, e1, g1, hA1⟩ := h.must0 (n := n) (E := E) hS
  have k3 := kdT_3 (tb := tb) (l := l) (s := s)
  refine ⟨_, ?_, g1.ag et_A (by omega) (by omega), ⟨by rw [mI_i (by decide), mI_s], mI_s⟩, (qb_m hA1).trans (et_A.mono (fun b j q => by unfold qmA; omega))⟩
  unfold F_Mo_endText
  rw [hS.i105, obs, h.2.2.2.1, iL0, if_pos rfl, hS.i105, obs, h.1.2.2.2.2.1, if_neg (ceqF (show ¬ (kdT tb l s : Int) = 0 by omega) (by omega) (by omega) (by omega) (by omega)), e1, obs, et_b19 hS]
/-- the end of a text that is over -/
theorem et_ok (hS : ShOK S B) (h : MK MM B ord tb l s mo ma nc pt) (hk : kdT tb l s = 0) : F_Mo_endText n E S (B + 105) MM = some (setI (setI MM (B + 105) 20 (iI 0)) (B + 105) 13 (iI 0)) := by
  unfold F_Mo_endText
  rw [hS.i105, obs, h.2.2.2.1, iL0, if_pos rfl, hS.i105, obs, h.1.2.2.2.2.1, hk, if_pos (show iI ((0 : Nat) : Int) = iI 0 from rfl), et_b19 hS]
end
section
variable {n : Nat} {E : zE} {S : zS} {B : Nat} {ord : Bool} {tb : Nat → Int} {l : Nat}
/-- what a whole text comes to: M0, MM0 ahead -/
theorem sim_parse (hS : ShOK S B) (hn : 1000 ≤ n) {τ : Type} {RD : zS → zH → Option zH} {K : zS → zH → Option τ} {LP : zS → (Nat × zH → Option τ) → Nat → zH → Option τ}
  (hLP : ∀ (S' : zS) rec M, LP S' rec (B + 105) M = (zgI S' M (B + 105) 11 19).bind fun v => if v = 0 then (F_Mo_isSign n E S' (B + 105) 59 M).bind fun q => if q.1 = true then (F_Mo_next n E S' (B + 105) q.2).bind fun q2 => (RD S' q2).bind fun q3 => rec (B + 105, q3) else K S' q.2 else K S' M)
  (hcs : ∀ M cl s st len pt, CB M B ord tb l cl s st len pt → cl < 12 → len ≤ s → ClSim n E S B ord tb l RD M cl s st len pt)
  (h12 : ∀ (S' : zS), ShOK S' B → ∀ MM s mo ma nc pt, MP MM B ord tb l 12 s mo ma nc pt → ∃ MM', RD S' MM = some MM' ∧ MBd MM' B s ∧ zAg (psB B) MM MM') :
  ∀ (r : Nat) (M : zH) (cl s : Nat) (st : Nat → Int) (len pt fuel : Nat) (D : Nat → Ds), cl + r = 12 → r < fuel → CB M B ord tb l cl s st len pt → len ≤ s → (∀ c, c < cl → QC M B ord st len c (D c)) →
  ∃ M', zAg (qaX B) M M' ∧ ((∃ s' : Nat, zfix (fun r26 s => F_Ps_parse_L26 n E S r26 s.1 s.2.1 s.2.2) fuel (B + 69, iI (cl : Int), M) = some (iI (s' : Int), M') ∧ s' ≤ l ∧ ∀ (S' : zS), ShOK S' B → ∀ MM mo ma nc fu, MP MM B ord tb l cl s mo ma nc pt → r < fu → ∃ MM' MM'', ((RD S' MM).bind fun q => zfix (fun r s => LP S' r s.1 s.2) fu (B + 105, q)) = K S' MM' ∧ F_Mo_endText n E S' (B + 105) MM' = some MM'' ∧ MBd MM'' B s' ∧ (mI MM'' (B + 105) 20 = iI 0 ∧ mI MM'' (B + 105) 13 = iI 0) ∧ zAg (qmA B ord) MM MM'') ∨
    (∃ (s' : Nat) (st' : Nat → Int) (len' pt' cl' : Nat) (D' : Nat → Ds), zfix (fun r26 s => F_Ps_parse_L26 n E S r26 s.1 s.2.1 s.2.2) fuel (B + 69, iI (cl : Int), M) = some (iI (-1), M') ∧ CB M' B ord tb l cl' s' st' len' pt' ∧ (∀ c, c < cl' → QC M' B ord st' len' c (D' c)) ∧ ∀ (S' : zS), ShOK S' B → ∀ MM mo ma nc fu, MP MM B ord tb l cl s mo ma nc pt → r < fu → cBd mo ma nc → (∀ c, c < cl → QM MM B ord mo ma nc c (D c)) → ∃ (MM' MM'' : zH) (mo' ma' : Nat → Int) (nc' : Nat), ((RD S' MM).bind fun q => zfix (fun r s => LP S' r s.1 s.2) fu (B + 105, q)) = K S' MM' ∧ F_Mo_endText n E S' (B + 105) MM' = some MM'' ∧ (mI MM'' (B + 105) 19 = iI 0 ∧ mI MM'' (B + 105) 20 = iI 0 ∧ mI MM'' (B + 105) 13 = iI 0 ∧ mI MM'' (B + 105) 21 = iI (cl' : Int) ∧ mI MM'' (B + 105) 18 = iI (-1)) ∧ (mI MM'' (B + 105) 23 = iI (nc' : Int) ∧ nc' ≤ 400 ∧ ∀ k, k < nc' → mI MM'' (B + 116) k = iI (mo' k) ∧ mI MM'' (B + 117) k = iI (ma' k)) ∧ cBd mo' ma' nc' ∧ (∀ c, c < cl' → QM MM'' B ord mo' ma' nc' c (D' c)) ∧ zAg (qmA B ord) MM MM'')) := by
  intro r
  induction r with
  | zero =>
    intro M cl s st len pt fuel D hr hf hB hl hQ
    obtain ⟨fuel, rfl⟩ : ∃ f', fuel = f' + 1 := ⟨fuel - 1, by omega⟩
    have e12 : cl = 12 := by omega
    subst e12
    refine ⟨M, zAg.rfl', Or.inl ⟨s, ?_, hB.1.2.1, fun S' hS' MM mo ma nc fu h hfu => ?_⟩⟩
    · show F_Ps_parse_L26 n E S _ (B + 69) (iI ((12 : Nat) : Int)) M = _
      unfold F_Ps_parse_L26 F_Ta_place
      rw [if_pos (show (12 : Int32) ≤ iI ((12 : Nat) : Int) by decide), hS.g69_1, obs, hS.ck67, obs, hS.i67, obs, obs, hB.1.2.2.2.1]
    · obtain ⟨MM1, e1, b1, z1⟩ := h12 S' hS' MM s mo ma nc pt h
      obtain ⟨fu, rfl⟩ : ∃ f', fu = f' + 1 := ⟨fu - 1, by omega⟩
      obtain ⟨MM2, e2, b2, y2, z2⟩ := et_bad (n := n) (E := E) (ord := ord) hS' b1
      refine ⟨MM1, MM2, ?_, e2, b2, y2, (qb_m z1).trans z2⟩
      rw [e1, obs]
      show LP S' _ (B + 105) MM1 = _
      rw [hLP, hS'.i105, obs, b1.1, iL0, if_neg (show ¬ iI 1 = iI 0 by decide)]
  | succ r ih =>
    intro M cl s st len pt fuel D hr hf hB hl hQ
    obtain ⟨fuel, rfl⟩ : ∃ f', fuel = f' + 1 := ⟨fuel - 1, by omega⟩
    have lpB : ∀ (S' : zS), ShOK S' B → ∀ (fu : Nat) (MM1 : zH) (s' : Nat), 0 < fu → MBd MM1 B s' → zfix (fun r s => LP S' r s.1 s.2) fu (B + 105, MM1) = K S' MM1 := fun S' hS' fu MM1 s' h0 b1 => by
      obtain ⟨fu, rfl⟩ : ∃ f', fu = f' + 1 := ⟨fu - 1, by omega⟩
      show LP S' _ (B + 105) MM1 = _
      rw [hLP, hS'.i105, obs, b1.1, iL0, if_neg (show ¬ iI 1 = iI 0 by decide)]
    have lpN : ∀ (S' : zS), ShOK S' B → ∀ (fu : Nat) (MM1 : zH) (s' : Nat) mo ma nc pt, 0 < fu → MK MM1 B ord tb l s' mo ma nc pt → ¬ (kdT tb l s' = 3 ∧ tb s' = 59) → zfix (fun r s => LP S' r s.1 s.2) fu (B + 105, MM1) = K S' MM1 := fun S' hS' fu MM1 s' mo ma nc pt h0 b1 hs => by
      obtain ⟨fu, rfl⟩ : ∃ f', fu = f' + 1 := ⟨fu - 1, by omega⟩
      show LP S' _ (B + 105) MM1 = _
      rw [hLP, hS'.i105, obs, b1.2.2.2.1, iL0, if_pos rfl, show (59 : Int32) = iI 59 by decide, m_isSign hS' b1.1 (by omega) (by omega), obs, if_neg (fun z => hs (of_decide_eq_true z))]
    have red : ∀ rec, F_Ps_parse_L26 n E S rec (B + 69) (iI (cl : Int)) M = (F_Ps_readClause n E S (B + 69) M).bind fun q_6 => if q_6.1 = true then (F_Ta_atEnd n E S (B + 67) q_6.2).bind fun q_10 => if q_10.1 = true then some (iI (-1), q_10.2) else (F_Ta_atSign n E S (B + 67) (iI 59) q_10.2).bind fun q_12 => if q_12.1 = true then (F_Ta_advance n E S (B + 67) q_12.2).bind fun q_14 => rec (B + 69, iI ((cl + 1 : Nat) : Int), q_14) else (F_Ta_place n E S (B + 67) q_12.2).bind fun q_15 => some (q_15.1, q_15.2) else (F_Ta_place n E S (B + 67) q_6.2).bind fun q_18 => some (q_18.1, q_18.2) := fun rec => by
      unfold F_Ps_parse_L26
      rw [show (12 : Int32) = iI 12 by decide, if_neg (cleF (by omega) (by omega) (by omega)), hS.ck69, obs, iL1, iI_add]
      cases F_Ps_readClause n E S (B + 69) M with
      | none => rfl
      | some q =>
        rw [obs, obs]
        by_cases c : q.1 = true
        · rw [if_pos c, if_pos c, hS.g69_1, obs, hS.ck67, obs]; rfl
        · rw [if_neg c, if_neg c, hS.g69_1, obs, hS.ck67, obs]
    have plc : ∀ (M1 : zH) (s1 : Nat), mI M1 (B + 67) 3 = iI (s1 : Int) → F_Ta_place n E S (B + 67) M1 = some (iI (s1 : Int), M1) := fun M1 s1 h => by
      unfold F_Ta_place
      rw [hS.i67, obs, h]
    rcases hcs M cl s st len pt hB (by omega) hl with ⟨M1, s1, e1, hA1, p1, l1, m1⟩ | ⟨M1, s1, st1, len1, pt1, D1, e1, hA1, g1, q1, k1, ⟨n1, n2, n3⟩, m1⟩
    · refine ⟨M1, hA1.mono (fun b j q => by unfold ctX at q; unfold qaX; omega), Or.inl ⟨s1, ?_, l1, fun S' hS' MM mo ma nc fu h hfu => ?_⟩⟩
      · show F_Ps_parse_L26 n E S _ (B + 69) (iI (cl : Int)) M = _
        rw [red, e1, obs, if_neg Bool.false_ne_true, plc M1 s1 p1, obs]
      · obtain ⟨MM1, f1, b1, z1⟩ := m1 S' hS' MM mo ma nc h
        obtain ⟨MM2, e2, b2, y2, z2⟩ := et_bad (n := n) (E := E) (ord := ord) hS' b1
        exact ⟨MM1, MM2, by rw [f1, obs, lpB S' hS' fu MM1 s1 (by omega) b1], e2, b2, y2, (lb_m z1).trans z2⟩
    · have k3 := kdT_3 (tb := tb) (l := l) (s := s1)
      have hs1l := g1.1.2.1
      have qq : ∀ c, c < cl + 1 → QC M1 B ord st1 len1 c (if c = cl then D1 else D c) := fun c hc => by
        by_cases z : c = cl
        · rw [if_pos z, z]; exact q1
        · rw [if_neg z]; exact (hQ c (by omega)).ag hA1 (by omega) k1 n3
      have ate : F_Ta_atEnd n E S (B + 67) M1 = some (decide (kdT tb l s1 = 0), M1) := by
        unfold F_Ta_atEnd
        rw [hS.i67, obs, g1.1.2.2.1, iL0]
        by_cases z : kdT tb l s1 = 0
        · rw [z, if_pos (show iI ((0 : Nat) : Int) = iI 0 from rfl)]; rfl
        · rw [if_neg (ceqF (show ¬ (kdT tb l s1 : Int) = 0 by omega) (by omega) (by omega) (by omega) (by omega)), decide_eq_false z]
      by_cases c0 : kdT tb l s1 = 0
      · refine ⟨M1, hA1.mono (fun b j q => by unfold ctX at q; unfold qaX; omega), Or.inr ⟨s1, st1, len1, pt1, cl + 1, fun c => if c = cl then D1 else D c, ?_, g1, qq, fun S' hS' MM mo ma nc fu h hfu hb hm => ?_⟩⟩
        · show F_Ps_parse_L26 n E S _ (B + 69) (iI (cl : Int)) M = _
          rw [red, e1, obs, if_pos rfl, ate, obs, if_pos (decide_eq_true c0)]
        · obtain ⟨MM1, mo1, ma1, nc1, f1, h1, z1, x1, kp, bd, nn⟩ := m1 S' hS' MM mo ma nc h
          obtain ⟨a1, ⟨b1, b2, b3⟩, c1, d1, e1', f1', f2'⟩ := h1.1
          refine ⟨MM1, _, mo1, ma1, nc1, by rw [f1, obs, lpN S' hS' fu MM1 s1 _ _ _ _ (by omega) h1.1 (by omega)], et_ok hS' h1.1 c0, ⟨?_, ?_, mI_s, ?_, ?_⟩, ⟨?_, b2, fun k hk => ?_⟩, fun p hp => ?_, fun c hc => ?_, (lw_m z1).trans (et_A.mono (fun b j q => by unfold qmA; omega))⟩
          · rw [(et_A (MM := MM1) (B := B) _ _ (by omega)).1]; exact d1
          · rw [mI_i (by decide), mI_s]
          · rw [(et_A (MM := MM1) (B := B) _ _ (by omega)).1]; exact h1.2.2.1
          · rw [(et_A (MM := MM1) (B := B) _ _ (by omega)).1]; exact h1.2.2.2.2
          · rw [(et_A (MM := MM1) (B := B) _ _ (by omega)).1]; exact b1
          · rw [(et_A (MM := MM1) (B := B) _ _ (by omega)).1, (et_A (MM := MM1) (B := B) _ _ (by omega)).1]; exact b3 k hk
          · by_cases z : p < nc
            · rw [(kp p z).1, (kp p z).2]; exact hb p z
            · exact bd p (by omega) hp
          · have qb := qo_b (ord := ord)
            have base : QM MM1 B ord mo1 ma1 nc1 c (if c = cl then D1 else D c) := by
              by_cases z : c = cl
              · rw [if_pos z, z]; exact x1
              · rw [if_neg z]; exact (hm c (by omega)).ag z1 (fun j j1 j2 => by unfold lwX psX; omega) kp nn
            exact base.ag et_A (fun j j1 j2 => by omega) (fun p hp => ⟨rfl, rfl⟩) (Nat.le_refl _)
      · by_cases c9 : kdT tb l s1 = 3 ∧ tb s1 = 59
        · obtain ⟨M2, e2, g2, hA2⟩ := g1.adv (n := n) (E := E) hS hn
          have sb := nx_b (tb := tb) hs1l
          obtain ⟨M3, hA3, res⟩ := ih M2 (cl + 1) (nx tb l s1) st1 len1 pt1 fuel (fun c => if c = cl then D1 else D c) (by omega) (by omega) g2 (by omega) (fun c hc => (qq c hc).ag (c' := cl + 1) (hA2.mono (fun b j q => by unfold tpX at q; unfold ctX; omega)) hc (fun p hp => rfl) (Nat.le_refl _))
          have lpY : ∀ (S' : zS), ShOK S' B → ∀ (fu : Nat) (MM1 : zH) mo ma nc, 0 < fu → MP MM1 B ord tb l (cl + 1) s1 mo ma nc pt1 → ∃ MM2, MP MM2 B ord tb l (cl + 1) (nx tb l s1) mo ma nc pt1 ∧ zAg (psX B) MM1 MM2 ∧ zfix (fun r s => LP S' r s.1 s.2) fu (B + 105, MM1) = (RD S' MM2).bind fun q => zfix (fun r s => LP S' r s.1 s.2) (fu - 1) (B + 105, q) := fun S' hS' fu MM1 mo ma nc h0 b1 => by
            obtain ⟨fu, rfl⟩ : ∃ f', fu = f' + 1 := ⟨fu - 1, by omega⟩
            obtain ⟨MM2, f2, h2, z2⟩ := b1.next (n := n) (E := E) hS' hn
            refine ⟨MM2, h2, z2, ?_⟩
            show LP S' _ (B + 105) MM1 = _
            rw [hLP, hS'.i105, obs, b1.1.2.2.2.1, iL0, if_pos rfl, show (59 : Int32) = iI 59 by decide, m_isSign hS' b1.1.1 (by omega) (by omega), obs, if_pos (decide_eq_true c9), f2, obs]
            rfl
          have ceq : zfix (fun r26 s => F_Ps_parse_L26 n E S r26 s.1 s.2.1 s.2.2) (fuel + 1) (B + 69, iI (cl : Int), M) = zfix (fun r26 s => F_Ps_parse_L26 n E S r26 s.1 s.2.1 s.2.2) fuel (B + 69, iI ((cl + 1 : Nat) : Int), M2) := by
            show F_Ps_parse_L26 n E S (zfix (fun r26 s => F_Ps_parse_L26 n E S r26 s.1 s.2.1 s.2.2) fuel) (B + 69) (iI (cl : Int)) M = _
            rw [red, e1, obs, if_pos rfl, ate, obs, if_neg (fun z => c0 (of_decide_eq_true z)), s_atSign hS g1.1 (by omega) (by omega), obs, if_pos (decide_eq_true c9), e2, obs]
          refine ⟨M3, ((hA1.mono (fun b j q => by unfold ctX at q; unfold qaX; omega)).trans (hA2.mono (fun b j q => by unfold tpX at q; unfold qaX; omega))).trans hA3, ?_⟩
          rw [ceq]
          rcases res with ⟨s', e3, l3, m3⟩ | ⟨s', st', len', pt', cl', D', e3, g3, q3, m3⟩
          · refine Or.inl ⟨s', e3, l3, fun S' hS' MM mo ma nc fu h hfu => ?_⟩
            obtain ⟨MM1, mo1, ma1, nc1, f1, h1, z1, x1, kp, bd, nn⟩ := m1 S' hS' MM mo ma nc h
            obtain ⟨MM2, h2, z2, f2⟩ := lpY S' hS' fu MM1 mo1 ma1 nc1 (by omega) h1
            obtain ⟨MM3, MM4, f3, f4, b4, y4, z4⟩ := m3 S' hS' MM2 mo1 ma1 nc1 (fu - 1) h2 (by omega)
            exact ⟨MM3, MM4, by rw [f1, obs, f2]; exact f3, f4, b4, y4, ((lw_m z1).trans (qs_m z2)).trans z4⟩
          · refine Or.inr ⟨s', st', len', pt', cl', D', e3, g3, q3, fun S' hS' MM mo ma nc fu h hfu hb hm => ?_⟩
            obtain ⟨MM1, mo1, ma1, nc1, f1, h1, z1, x1, kp, bd, nn⟩ := m1 S' hS' MM mo ma nc h
            obtain ⟨MM2, h2, z2, f2⟩ := lpY S' hS' fu MM1 mo1 ma1 nc1 (by omega) h1
            have qb := qo_b (ord := ord)
            obtain ⟨MM3, MM4, mo4, ma4, nc4, f3, f4, ⟨a1, a2, a3, a4, a5⟩, b4, c4, d4, z4⟩ := m3 S' hS' MM2 mo1 ma1 nc1 (fu - 1) h2 (by omega) (fun p hp => by
              by_cases z : p < nc
              · rw [(kp p z).1, (kp p z).2]; exact hb p z
              · exact bd p (by omega) hp) (fun c hc => by
              have base : QM MM1 B ord mo1 ma1 nc1 c (if c = cl then D1 else D c) := by
                by_cases z : c = cl
                · rw [if_pos z, z]; exact x1
                · rw [if_neg z]; exact (hm c (by omega)).ag z1 (fun j j1 j2 => by unfold lwX psX; omega) kp nn
              exact base.ag z2 (fun j j1 j2 => by unfold psX; omega) (fun p hp => ⟨rfl, rfl⟩) (Nat.le_refl _))
            exact ⟨MM3, MM4, mo4, ma4, nc4, by rw [f1, obs, f2]; exact f3, f4, ⟨a1, a2, a3, a4, a5⟩, b4, c4, d4, ((lw_m z1).trans (qs_m z2)).trans z4⟩
        · refine ⟨M1, hA1.mono (fun b j q => by unfold ctX at q; unfold qaX; omega), Or.inl ⟨s1, ?_, hs1l, fun S' hS' MM mo ma nc fu h hfu => ?_⟩⟩
          · show F_Ps_parse_L26 n E S _ (B + 69) (iI (cl : Int)) M = _
            rw [red, e1, obs, if_pos rfl, ate, obs, if_neg (fun z => c0 (of_decide_eq_true z)), s_atSign hS g1.1 (by omega) (by omega), obs, if_neg (fun z => c9 (of_decide_eq_true z)), plc M1 s1 g1.1.2.2.2.1, obs]
          · obtain ⟨MM1, mo1, ma1, nc1, f1, h1, z1, x1, kp, bd, nn⟩ := m1 S' hS' MM mo ma nc h
            obtain ⟨MM2, e2, b2, y2, z2⟩ := et_on (n := n) (E := E) hS' h1.1 c0
            exact ⟨MM1, MM2, by rw [f1, obs, lpN S' hS' fu MM1 s1 _ _ _ _ (by omega) h1.1 c9], e2, b2, y2, (lw_m z1).trans z2⟩
end
