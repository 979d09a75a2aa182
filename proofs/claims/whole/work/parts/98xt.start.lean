/-! law and orders: a text from its start, both sides -/
def taX (B : Nat) : Nat → Nat → Prop := fun b j => (b = B + 67 ∧ 2 ≤ j ∧ j ≤ 5) ∨ (b = B + 69 ∧ (j = 2 ∨ j = 3)) ∨ (b = B + 70 ∧ (j = 5 ∨ j = 6)) ∨ (B + 71 ≤ b ∧ b ≤ B + 75)
section
variable {n : Nat} {E : zE} {S : zS} {M MM : zH} {B : Nat} {ord : Bool} {tb : Nat → Int} {l : Nat}
theorem c_start (hS : ShOK S B) (hn : 1000 ≤ n) (hT : TC M B tb l) : ∃ M1, F_Ps_parse n E S (B + 69) (bI ord) M = zfix (fun r26 s => F_Ps_parse_L26 n E S r26 s.1 s.2.1 s.2.2) n (B + 69, iI ((0 : Nat) : Int), M1) ∧ CB M1 B ord tb l 0 (sT tb l 0) (fun _ => 0) 0 0 ∧ zAg (taX B) M M1 := by
  have hA1 : zAg (fun b j => (b = B + 69 ∧ (j = 2 ∨ j = 3)) ∨ (b = B + 70 ∧ (j = 5 ∨ j = 6)) ∨ (b = B + 67 ∧ j = 4)) M (setI (setI (setI (setI (setI M (B + 69) 2 (bI ord)) (B + 69) 3 (iI 0)) (B + 70) 5 (iI 0)) (B + 70) 6 (iI 0)) (B + 67) 4 (iI 0)) := ((((zAg.rfl'.setI (by omega)).setI (by omega)).setI (by omega)).setI (by omega)).setI (by omega)
  have hT1 := hT.ag hA1 (by omega) (fun j => by omega)
  obtain ⟨M1, e1, g1, hA2⟩ := c_adv (n := n) (E := E) hS hn hT1 (p := 0) (by omega) mI_s
  refine ⟨M1, ?_, ⟨g1, ⟨⟨?_, by omega, fun k hk => by omega⟩, ?_, by omega⟩, ?_, ?_, by omega⟩, (hA1.mono (fun b j q => by unfold taX; omega)).trans (hA2.mono (fun b j q => by unfold tpX at q; unfold taX; omega))⟩
  · unfold F_Ps_parse F_Te_clear F_Ta_rewind F_Ps_parse_b26
    rw [hS.zb69, obs, iL0, hS.p69, obs, hS.g69_0, obs, hS.ck70, obs, hS.p70, obs, hS.p70, obs, obs, hS.g69_1, obs, hS.ck67, obs, hS.p67, obs, obs, e1, obs, obs]
    rfl
  · rw [(hA2 _ _ (by unfold tpX; omega)).1, mI_a (by omega), mI_i (by decide), mI_s]; rfl
  · rw [(hA2 _ _ (by unfold tpX; omega)).1, mI_a (by omega), mI_a (by omega), mI_a (by omega), mI_s]; rfl
  · rw [(hA2 _ _ (by unfold tpX; omega)).1, mI_a (by omega), mI_a (by omega), mI_a (by omega), mI_i (by decide), mI_s]
  · rw [(hA2 _ _ (by unfold tpX; omega)).1, mI_a (by omega), mI_s]; rfl
theorem m_start (hS : ShOK S B) (hn : 1000 ≤ n) (hT : TM MM B tb l) (hCo : ConR MM B) : ∃ MM1, F_Mo_beginText n E S (B + 105) (bI ord) MM = some MM1 ∧ MP MM1 B ord tb l 0 (sT tb l 0) (fun _ => 0) (fun _ => 0) 0 0 ∧ zAg (qmA B ord) MM MM1 := by
  have hA1 : zAg (fun b j => b = B + 105 ∧ (j = 20 ∨ j = 15 ∨ j = 19 ∨ j = 18)) MM (setI (setI (setI (setI MM (B + 105) 20 (bI ord)) (B + 105) 15 (iI 0)) (B + 105) 19 (iI 0)) (B + 105) 18 (iI (-1))) := (((zAg.rfl'.setI (by omega)).setI (by omega)).setI (by omega)).setI (by omega)
  have hT1 := hT.ag hA1 (by omega) (fun j => by omega)
  obtain ⟨M1, e1, g1, hA2⟩ := m_nxt (n := n) (E := E) hS hn hT1 (p := 0) (by omega) (by rw [mI_i (by decide), mI_i (by decide), mI_s]; rfl)
  have hA3 : zAg (fun b j => b = B + 105 ∧ (j = 21 ∨ j = 23 ∨ j = 26)) M1 (setI (setI (setI M1 (B + 105) 21 (iI 0)) (B + 105) 23 (iI 0)) (B + 105) 26 (iI 0)) := ((zAg.rfl'.setI (by omega)).setI (by omega)).setI (by omega)
  have hA : zAg (qmA B ord) MM (setI (setI (setI M1 (B + 105) 21 (iI 0)) (B + 105) 23 (iI 0)) (B + 105) 26 (iI 0)) := ((hA1.mono (fun b j q => by unfold qmA psB; omega)).trans (hA2.mono (fun b j q => by unfold mtX at q; unfold qmA psB; omega))).trans (hA3.mono (fun b j q => by unfold qmA psB; omega))
  have qb := qo_b (ord := ord)
  have g1' := g1.ag hA3 (fun j q1 q2 => by omega) (fun j => by omega)
  have ck : ∀ j x, mI (setI (setI (setI (setI MM (B + 105) 20 (bI ord)) (B + 105) 15 (iI 0)) (B + 105) 19 (iI 0)) (B + 105) 18 (iI (-1))) (B + 105) j = x → (j = 18 ∨ j = 19 ∨ j = 20) → mI (setI (setI (setI M1 (B + 105) 21 (iI 0)) (B + 105) 23 (iI 0)) (B + 105) 26 (iI 0)) (B + 105) j = x := fun j x h hj => by
    rw [(hA3 _ _ (by omega)).1, (hA2 _ _ (by unfold mtX; omega)).1]; exact h
  refine ⟨_, ?_, ⟨⟨g1', ⟨?_, by omega, fun k hk => by omega⟩, ⟨?_, by omega⟩, ck 19 _ (by rw [mI_i (by decide), mI_s]) (by omega), ck 20 _ (by rw [mI_i (by decide), mI_i (by decide), mI_i (by decide), mI_s]) (by omega), fun i hi => ?_, fun i hi => ?_⟩, ⟨fun i hi => ?_, fun i hi => ?_⟩, ?_, Nat.zero_le _, ck 18 _ mI_s (by omega)⟩, hA⟩
  · unfold F_Mo_beginText F_Mo_begin
    rw [hS.zb105, obs, hS.ck105, obs, iL0, hS.p105, obs, show iI 0 = bI false from rfl, hS.zb105, obs, show (-1 : Int32) = iI (-1) by decide, hS.p105, obs, obs, show bI false = iI 0 from rfl, e1, obs, obs, hS.p105, obs, hS.p105, obs, hS.p105, obs]
  · rw [mI_i (by decide), mI_s]; rfl
  · rw [mI_s]; rfl
  · rw [(hA _ _ (by unfold qmA psB; omega)).2.1]; exact hCo.2.1 i hi
  · rw [(hA _ _ (by unfold qmA psB; omega)).2.1]; exact hCo.2.2.1 i hi
  · rw [(hA _ _ (by unfold qmA psB; omega)).2.1]; exact hCo.2.2.2.1 i hi
  · rw [(hA _ _ (by unfold qmA psB; omega)).2.1]; exact hCo.2.2.2.2 i hi
  · rw [mI_i (by decide), mI_i (by decide), mI_s]; rfl
theorem sim_text (hS : ShOK S B) (hn : 1000 ≤ n) {τ : Type} {RD : zS → zH → Option zH} {K : zS → zH → Option τ} {LP : zS → (Nat × zH → Option τ) → Nat → zH → Option τ}
  (hLP : ∀ (S' : zS) rec M, LP S' rec (B + 105) M = (zgI S' M (B + 105) 11 19).bind fun v => if v = 0 then (F_Mo_isSign n E S' (B + 105) 59 M).bind fun q => if q.1 = true then (F_Mo_next n E S' (B + 105) q.2).bind fun q2 => (RD S' q2).bind fun q3 => rec (B + 105, q3) else K S' q.2 else K S' M)
  (hcs : ∀ M cl s st len pt, CB M B ord tb l cl s st len pt → cl < 12 → len ≤ s → ClSim n E S B ord tb l RD M cl s st len pt)
  (h12 : ∀ (S' : zS), ShOK S' B → ∀ MM s mo ma nc pt, MP MM B ord tb l 12 s mo ma nc pt → ∃ MM', RD S' MM = some MM' ∧ MBd MM' B s ∧ zAg (psB B) MM MM') (hT : TC M B tb l) :
  ∃ M', zAg (taX B) M M' ∧ ((∃ s' : Nat, F_Ps_parse n E S (B + 69) (bI ord) M = some (iI (s' : Int), M') ∧ s' ≤ l ∧ ∀ (S' : zS), ShOK S' B → ∀ MM, TM MM B tb l → ConR MM B → ∃ MM1 MM' MM'', F_Mo_beginText n E S' (B + 105) (bI ord) MM = some MM1 ∧ ((RD S' MM1).bind fun q => zfix (fun r s => LP S' r s.1 s.2) n (B + 105, q)) = K S' MM' ∧ F_Mo_endText n E S' (B + 105) MM' = some MM'' ∧ MBd MM'' B s' ∧ (mI MM'' (B + 105) 20 = iI 0 ∧ mI MM'' (B + 105) 13 = iI 0) ∧ zAg (qmA B ord) MM MM'') ∨
    (∃ (s' : Nat) (st' : Nat → Int) (len' pt' cl' : Nat) (D' : Nat → Ds), F_Ps_parse n E S (B + 69) (bI ord) M = some (iI (-1), M') ∧ CB M' B ord tb l cl' s' st' len' pt' ∧ (∀ c, c < cl' → QC M' B ord st' len' c (D' c)) ∧ ∀ (S' : zS), ShOK S' B → ∀ MM, TM MM B tb l → ConR MM B → ∃ (MM1 MM' MM'' : zH) (mo' ma' : Nat → Int) (nc' : Nat), F_Mo_beginText n E S' (B + 105) (bI ord) MM = some MM1 ∧ ((RD S' MM1).bind fun q => zfix (fun r s => LP S' r s.1 s.2) n (B + 105, q)) = K S' MM' ∧ F_Mo_endText n E S' (B + 105) MM' = some MM'' ∧ (mI MM'' (B + 105) 19 = iI 0 ∧ mI MM'' (B + 105) 20 = iI 0 ∧ mI MM'' (B + 105) 13 = iI 0 ∧ mI MM'' (B + 105) 21 = iI (cl' : Int) ∧ mI MM'' (B + 105) 18 = iI (-1)) ∧ (mI MM'' (B + 105) 23 = iI (nc' : Int) ∧ nc' ≤ 400 ∧ ∀ k, k < nc' → mI MM'' (B + 116) k = iI (mo' k) ∧ mI MM'' (B + 117) k = iI (ma' k)) ∧ cBd mo' ma' nc' ∧ (∀ c, c < cl' → QM MM'' B ord mo' ma' nc' c (D' c)) ∧ zAg (qmA B ord) MM MM'')) := by
  obtain ⟨M1, e1, g1, hA1⟩ := c_start (n := n) (E := E) (ord := ord) hS hn hT
  obtain ⟨M2, hA2, res⟩ := sim_parse hS hn hLP hcs h12 12 M1 0 (sT tb l 0) (fun _ => 0) 0 0 n (fun _ => (0, 0, fun _ => none, fun _ => none, none)) (by omega) (by omega) g1 (by omega) (fun c hc => by omega)
  refine ⟨M2, hA1.trans (hA2.mono (fun b j q => by unfold qaX at q; unfold taX; omega)), ?_⟩
  rcases res with ⟨s', e3, l3, m3⟩ | ⟨s', st', len', pt', cl', D', e3, g3, q3, m3⟩
  · refine Or.inl ⟨s', e1.trans e3, l3, fun S' hS' MM hM hCo => ?_⟩
    obtain ⟨MM1, f1, h1, z1⟩ := m_start (n := n) (E := E) (ord := ord) hS' hn hM hCo
    obtain ⟨MM2, MM3, f2, f3, b3, y3, z3⟩ := m3 S' hS' MM1 _ _ _ n h1 (by omega)
    exact ⟨MM1, MM2, MM3, f1, f2, f3, b3, y3, z1.trans z3⟩
  · refine Or.inr ⟨s', st', len', pt', cl', D', e1.trans e3, g3, q3, fun S' hS' MM hM hCo => ?_⟩
    obtain ⟨MM1, f1, h1, z1⟩ := m_start (n := n) (E := E) (ord := ord) hS' hn hM hCo
    obtain ⟨MM2, MM3, mo3, ma3, nc3, f2, f3, b3, y3, c3, d3, z3⟩ := m3 S' hS' MM1 _ _ _ n h1 (by omega) (fun p hp => by omega) (fun c hc => by omega)
    exact ⟨MM1, MM2, MM3, mo3, ma3, nc3, f1, f2, f3, b3, y3, c3, d3, z1.trans z3⟩
end
