/-! law: both sides agree -/
def LawOK (n : Nat) (E : zE) (B : Nat) : Prop := ∀ S M, Inv S M B → ∃ r S1 M1 M2, F_NC_law n E (B + 0) S M = some (r, S1, M1) ∧ F_Mo_law n E S1 (B + 105) M1 = some (r, M2) ∧ Inv S1 M2 B
def OrdOK (n : Nat) (E : zE) (B : Nat) : Prop := ∀ S M, Inv S M B → Ag1 S B M (fun M => F_NC_orders n E S (B + 0) M) (fun M => F_Mo_orders n E S (B + 105) M)
/-- all that reading a text changes -/
def lgX (B : Nat) (ord : Bool) : Nat → Nat → Prop := fun b j => taX B b j ∨ (b = B + 0 ∧ 15 ≤ j ∧ j ≤ 18) ∨ (b = B + 67 ∧ j = 1) ∨ b = B + 104 ∨ (b = B + 105 ∧ (j = 0 ∨ j = 52)) ∨ qmA B ord b j
section
variable {n : Nat} {E : zE} {S : zS} {M M' : zH} {B : Nat} {ord : Bool} {tb : Nat → Int} {l : Nat}
theorem qmA_b {b j : Nat} (h : qmA B ord b j) : (b = B + 105 ∧ ((13 ≤ j ∧ j ≤ 21) ∨ j = 23 ∨ j = 26 ∨ j = 29 ∨ j = 30)) ∨ (B + 115 ≤ b ∧ b ≤ B + 119) ∨ b = B + 134 := by
  have qb := qo_b (ord := ord)
  unfold qmA psB at h
  omega
theorem QC.fr {X : Nat → Nat → Prop} {st : Nat → Int} {len c : Nat} {D : Ds} (h : QC M B ord st len c D) (hA : zAg X M M') (hX : ∀ b j, B + 72 ≤ b → b ≤ B + 75 → ¬ X b j) : QC M' B ord st len c D := by
  obtain ⟨mk, wm, ⟨k1, k2, k3⟩, ⟨w1, w2⟩, r⟩ := h
  exact ⟨mk, wm, ⟨by rw [(hA _ _ (hX (B + 72) _ (by omega) (by omega))).1]; exact k1, by rw [(hA _ _ (hX (B + 73) _ (by omega) (by omega))).1]; exact k2, fun i hi => by rw [(hA _ _ (hX (B + 75) _ (by omega) (by omega))).1]; exact k3 i hi⟩, ⟨by rw [(hA _ _ (hX (B + 74) _ (by omega) (by omega))).1]; exact w1, w2⟩, r⟩
theorem lgX_b {b j : Nat} (h : lgX B ord b j) : (b = B + 0 ∧ 15 ≤ j ∧ j ≤ 18) ∨ b = B + 67 ∨ (B + 69 ≤ b ∧ b ≤ B + 75) ∨ b = B + 104 ∨ (b = B + 105 ∧ (j = 0 ∨ (13 ≤ j ∧ j ≤ 21) ∨ j = 23 ∨ j = 26 ∨ j = 29 ∨ j = 30 ∨ j = 52)) ∨ (B + 115 ≤ b ∧ b ≤ B + 119) ∨ b = B + 134 := by
  have qb := qo_b (ord := ord)
  unfold lgX taX qmA psB at h
  omega
theorem Now.txt (h : Now S M B) (hA : zAg (lgX B ord) M M') (h20 : mI M' (B + 105) 20 = iI 0) : Now S M' B := by
  obtain ⟨N, Ls, hC, hM, hh, hP⟩ := h
  refine ⟨N, Ls, hC.ag hA (fun b j q => by have := lgX_b q; omega), ⟨h20, hM.2.1.cg (fun i _ => (hA _ _ (fun q => by have := lgX_b q; omega)).1), hM.2.2.1, fun j hj hl => (hM.2.2.2 j hj hl).cg (fun i _ _ => (hA _ _ (fun q => by have := lgX_b q; omega)).1)⟩, hh, hP.ag hA (fun q => by have := lgX_b q; omega) (fun j q => by have := lgX_b q; omega) (fun q => by have := lgX_b q; omega) (fun j _ q => by have := lgX_b q; omega) (fun j q => by have := lgX_b q; omega)⟩
theorem tape0 (h1 : mI M (B + 67) 1 = iI 0) (h2 : mI M (B + 105) 13 = iI 0) : TapeR M B := ⟨0, fun _ => 0, by omega, h1, h2, fun k hk => by omega⟩
theorem ans_rf (hS : ShOK S B) {v : Int} (hv : isRf v) : F_NC_answered n E S (B + 0) (iI v) M = F_NC_refuse n E S (B + 0) (iI v) M := by
  have hneg : v < 0 ∧ -10 < v := by unfold isRf at hv; omega
  unfold F_NC_answered
  rw [if_neg (show ¬ (0 : Int32) ≤ iI v by rw [iL0]; exact cleF (by omega) (by omega) (by omega)), hS.ck0, obs, s_refuse hS hv, obs]
theorem ans_ac (hS : ShOK S B) {v : Int} (h0 : 0 ≤ v) (h1 : v ≤ 1000000000) : F_NC_answered n E S (B + 0) (iI v) M = F_NC_accept n E S (B + 0) (iI v) M := by
  unfold F_NC_answered
  rw [if_pos (show (0 : Int32) ≤ iI v by rw [iL0]; exact cleT (by omega) (by omega) (by omega)), hS.ck0, obs, s_accept hS, obs]
/-- a text of a law, both sides -/
theorem law_text (hS : ShOK S B) (hn : 1000 ≤ n) (hT : TC M B tb l) : ∃ M', zAg (taX B) M M' ∧ ((∃ s' : Nat, F_Ps_parse n E S (B + 69) (bI false) M = some (iI (s' : Int), M') ∧ s' ≤ l ∧ ∀ (S' : zS), ShOK S' B → ∀ MM, TM MM B tb l → ConR MM B → ∃ MM1 MM' MM'', F_Mo_beginText n E S' (B + 105) (bI false) MM = some MM1 ∧ ((F_Mo_readLaw n E S' (B + 105) MM1).bind fun q => F_Mo_law_b37 n E S' (B + 105, q)) = F_Mo_law_b64 n E S' (B + 105) MM' ∧ F_Mo_endText n E S' (B + 105) MM' = some MM'' ∧ MBd MM'' B s' ∧ (mI MM'' (B + 105) 20 = iI 0 ∧ mI MM'' (B + 105) 13 = iI 0) ∧ zAg (qmA B false) MM MM'') ∨
    (∃ (s' : Nat) (st' : Nat → Int) (len' pt' cl' : Nat) (D' : Nat → Ds), F_Ps_parse n E S (B + 69) (bI false) M = some (iI (-1), M') ∧ CB M' B false tb l cl' s' st' len' pt' ∧ (∀ c, c < cl' → QC M' B false st' len' c (D' c)) ∧ ∀ (S' : zS), ShOK S' B → ∀ MM, TM MM B tb l → ConR MM B → ∃ (MM1 MM' MM'' : zH) (mo' ma' : Nat → Int) (nc' : Nat), F_Mo_beginText n E S' (B + 105) (bI false) MM = some MM1 ∧ ((F_Mo_readLaw n E S' (B + 105) MM1).bind fun q => F_Mo_law_b37 n E S' (B + 105, q)) = F_Mo_law_b64 n E S' (B + 105) MM' ∧ F_Mo_endText n E S' (B + 105) MM' = some MM'' ∧ (mI MM'' (B + 105) 19 = iI 0 ∧ mI MM'' (B + 105) 20 = iI 0 ∧ mI MM'' (B + 105) 13 = iI 0 ∧ mI MM'' (B + 105) 21 = iI (cl' : Int) ∧ mI MM'' (B + 105) 18 = iI (-1)) ∧ (mI MM'' (B + 105) 23 = iI (nc' : Int) ∧ nc' ≤ 400 ∧ ∀ k, k < nc' → mI MM'' (B + 116) k = iI (mo' k) ∧ mI MM'' (B + 117) k = iI (ma' k)) ∧ cBd mo' ma' nc' ∧ (∀ c, c < cl' → QM MM'' B false mo' ma' nc' c (D' c)) ∧ zAg (qmA B false) MM MM'')) :=
  sim_text (RD := fun S' MM => F_Mo_readLaw n E S' (B + 105) MM) (K := fun S' MM => F_Mo_law_b64 n E S' (B + 105) MM) (LP := fun S' r a MM => F_Mo_law_L37 n E S' r a MM) hS hn (fun S' rec M => rfl) (fun M cl s st len pt hB hc hl => cl_law hS hn hB hc hl) (fun S' hS' MM s mo ma nc pt h => m_head0 hS' hn h.1 h.2.1.1 h.2.2.1 (by omega) (Or.inr rfl)) hT
/-- the new law: class -/
theorem tx_new {S1 : zS} {M1 M2 : zH} {t len cl pt : Nat} {st : Nat → Int} {D : Nat → Ds} (hz : B + 136 ≤ sZ S) (ht : sZ S = t) (hX : CX M B st len pt) (b8 : mI M (B + 70) 6 = iI (cl : Int)) (b9 : cl ≤ 12) (hQ : ∀ c, c < cl → QC M B false st len c (D c)) (hp : cpP S M B len t 5 S1 M1) (g5 : mI M1 t 5 = mI M (B + 70) 5) (g6 : mI M1 t 6 = mI M (B + 70) 6) (hA : zAg (fun b _ => b < B + 136) M1 M2) : TxR S1 M2 t (cl, fun c => (D c).1, fun c w => cvA (D c) w) := by
  obtain ⟨⟨b2, b3, b4⟩, b5, b6⟩ := hX
  obtain ⟨p1, p2, p3, p4, p5, p6⟩ := hp
  have mm : ∀ i j, mI M2 (t + i) j = mI M1 (t + i) j := fun i j => (hA _ _ (by omega)).1
  have m0 := fun j => mm 0 j
  simp only [Nat.add_zero] at m0
  have hq : ∀ c, ∃ y : (Nat → Nat) × Nat, c < cl → (KT M B c (D c).1 (D c).2.1 y.1 ∧ (mI M (B + 74) c = iI (y.2 : Int) ∧ y.2 < 524288) ∧ (0 ≤ (D c).1 ∧ (D c).1 ≤ 3 ∧ 1 ≤ (D c).2.1 ∧ (D c).2.1 ≤ 20) ∧ ((D c).1 ≠ 3 → sgC st 9 (y.1 0) (y.1 1) 50 (D c).2.2.1) ∧ tgC st 9 (y.1 2) (y.1 3) y.2 (D c).2.2.2.2 ∧ (y.1 0 ≤ y.1 1 ∧ y.1 1 ≤ y.1 2 ∧ y.1 2 ≤ y.1 3 ∧ y.1 3 ≤ len)) := fun c => by
    by_cases hc : c < cl
    · obtain ⟨mk, wm, q1, q2, q3, q4, q5, q6⟩ := hQ c hc
      exact ⟨(mk, wm), fun _ => ⟨q1, q2, q3, fun z => (q4 z).1.1, q5, q6⟩⟩
    · exact ⟨(fun _ => 0, 0), fun z => absurd z hc⟩
  obtain ⟨F, hF⟩ := Classical.skolem.mp hq
  have f0 := p4 0 (by omega)
  have f1 := p4 1 (by omega)
  have f2 := p4 2 (by omega)
  have f3 := p4 3 (by omega)
  have f4 := p4 4 (by omega)
  refine ⟨len, st, cl, fun c => (D c).1, fun c => (D c).2.1, fun c => ((F c).2 : Int), fun c => (F c).1, ⟨⟨p3, f0.1, f0.2.1, by show len ≤ sN S1 (t + 1 + 0); rw [f0.2.2]; exact Nat.le_refl _, by show sN S1 (t + 1 + 0) ≤ 400; rw [f0.2.2]; exact b3, by rw [m0, g5]; exact b2, fun i hi => ?_⟩, fun f hf => ⟨(p4 f hf).1, (p4 f hf).2.1⟩, ⟨f1.2.2, f2.2.2, f3.2.2, f4.2.2⟩, by rw [m0, g6]; exact b8, b9, fun c hc => ?_, fun c hc p hp => ?_⟩, rfl, fun c hc => rfl, fun c hc w => ?_⟩
  · rw [mm 1 i, show t + 1 = t + 1 + 0 from rfl, p6 0 (by omega) i (by exact hi)]; exact b4 i hi
  · obtain ⟨⟨k1, k2, k3⟩, ⟨w1, w2⟩, bb, _⟩ := hF c hc
    rw [mm 2 c, mm 3 c, mm 4 c, show t + 2 = t + 1 + 1 from rfl, show t + 3 = t + 1 + 2 from rfl, show t + 4 = t + 1 + 3 from rfl, p6 1 (by omega) c (by show c < 12; omega), p6 2 (by omega) c (by show c < 12; omega), p6 3 (by omega) c (by show c < 12; omega)]
    exact ⟨k1, k2, w1, bb.1, bb.2.1, by dsimp only; omega, bb.2.2.2, by dsimp only; omega, by dsimp only; omega⟩
  · obtain ⟨⟨k1, k2, k3⟩, _, _, _, _, n1, n2, n3, n4⟩ := hF c hc
    rw [mm 5 _, show t + 5 = t + 1 + 4 from rfl, p6 4 (by omega) _ (by show 4 * c + p < 48; omega)]
    refine ⟨k3 p hp, ?_⟩
    have : p = 0 ∨ p = 1 ∨ p = 2 ∨ p = 3 := by omega
    rcases this with rfl | rfl | rfl | rfl <;> (dsimp only; omega)
  · obtain ⟨_, _, _, s1, s2, n1, n2, n3, n4⟩ := hF c hc
    exact (cvC_D (D := D c) rfl s1 s2 (by omega) (by omega) b3 w).symm
/-- the new law: model -/
theorem rw_new {R : Nat → Int32} {M2 : zH} {j cl nc len : Nat} {mo ma : Nat → Int} {st : Nat → Int} {D : Nat → Ds} (hc : cl ≤ 12) (hn : nc ≤ 400) (hb : cBd mo ma nc) (hQ : ∀ c, c < cl → QM M2 B false mo ma nc c (D c)) (hQC : ∀ c, c < cl → QC M B false st len c (D c)) (h1 : R (80 + 900 * j + 1) = iI (cl : Int)) (h2 : ∀ i, i < 8 * cl → R (80 + 900 * j + 2 + i) = mI M2 (B + 115) i) (h3 : ∀ k, k < nc → R (80 + 900 * j + 98 + 2 * k) = iI (mo k) ∧ R (80 + 900 * j + 98 + 2 * k + 1) = iI (ma k)) : RwL R j (cl, fun c => (D c).1, fun c w => cvA (D c) w) := by
  have hq : ∀ c, ∃ y : Nat → Nat, c < cl → (mI M2 (B + 115) (8 * c + 0) = iI (D c).1 ∧ (∀ p, 3 ≤ p → p < 7 → mI M2 (B + 115) (8 * c + p) = iI (y p : Int) ∧ y p ≤ nc) ∧ ((D c).1 ≠ 3 → sgM false mo ma (fun _ => True) (y 3) (y 4) 50 (D c).2.2.1) ∧ tgM false mo ma (y 5) (y 6) (D c).2.2.2.2) := fun c => by
    by_cases hc : c < cl
    · obtain ⟨sg, q0, q1, q7, q4, qz, q5⟩ := hQ c hc
      exact ⟨sg, fun _ => ⟨q0, fun p p1 p2 => q1 p (Or.inr p1) (by omega) p2, fun z => (q4 z).1 rfl, q5⟩⟩
    · exact ⟨fun _ => 0, fun z => absurd z hc⟩
  obtain ⟨F, hF⟩ := Classical.skolem.mp hq
  refine ⟨cl, nc, fun c => (D c).1, F, mo, ma, h1, hc, hn, fun c hc => ?_, fun k hk => ⟨(h3 k hk).1, (h3 k hk).2, hb k hk⟩, rfl, fun c _ => rfl, fun c hc w _ => ?_⟩
  · obtain ⟨q0, q1, q2, q3⟩ := hF c hc
    obtain ⟨mk, wm, _, _, bb, _⟩ := hQC c hc
    have e0 := h2 (8 * c) (by omega)
    refine ⟨by rw [e0]; exact q0, bb.1, bb.2.1, fun p p1 p2 => ?_⟩
    have e1 := h2 (8 * c + p) (by omega)
    rw [← Nat.add_assoc] at e1
    rw [e1]; exact q1 p p1 p2
  · obtain ⟨q0, q1, q2, q3⟩ := hF c hc
    obtain ⟨mk, wm, _, _, _, _, tc, _⟩ := hQC c hc
    refine cvM_D (D := D c) (nc := nc) rfl q2 q3 (fun g hg => ?_) (q1 4 (by omega) (by omega)).2 (q1 6 (by omega) (by omega)).2 hn w
    rw [hg] at tc
    exact tc.2.1
end
