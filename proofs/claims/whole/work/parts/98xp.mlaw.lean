/-! law: the model's clauses -/
/-- what the model's reading of clause cl changes; q: where its clauses lie -/
def lwX (B q cl : Nat) : Nat → Nat → Prop := fun b j => psX B b j ∨ (b = B + 105 ∧ j = 21) ∨ (b = B + q ∧ 8 * cl ≤ j ∧ j < 8 * cl + 8)
/-- and where it goes bad -/
def lwB (B q cl : Nat) : Nat → Nat → Prop := fun b j => psB B b j ∨ (b = B + 105 ∧ j = 21) ∨ (b = B + q ∧ 8 * cl ≤ j ∧ j < 8 * cl + 8)
section
variable {n : Nat} {E : zE} {S : zS} {M M' MM : zH} {B : Nat} {ord : Bool} {tb : Nat → Int} {l cl s s' : Nat} {mo ma : Nat → Int} {nc pt : Nat} {kd : Int}
theorem psX_lw {q : Nat} (h : zAg (psX B) M M') : zAg (lwX B q cl) M M' := h.mono (fun b j z => Or.inl z)
theorem LM.bT (h : LM M B tb l s) : -1 ≤ wT tb l s ∧ wT tb l s < 2000000000000000 := wT_b (tb := tb) (fun k hk => ⟨(h.1.2.2 k hk).1, (h.1.2.2 k hk).2.1⟩) h.2.1
theorem MK.must1 (hS : ShOK S B) (hn : 1000 ≤ n) (h : MK M B ord tb l s mo ma nc pt) : ∃ M', F_Mo_must n E S (B + 105) (iI 1) M = some M' ∧ MK M' B ord tb l (nx tb l s) mo ma nc pt ∧ zAg (psX B) M M' := by
  obtain ⟨M', e, h1, h2⟩ := m_mustT (n := n) (E := E) hS hn h.1 h.2.2.2.1
  have h' : MK M' B ord tb l (nx tb l s) mo ma nc pt := by
    obtain ⟨a1, ⟨b1, b2, b3⟩, ⟨c1, c2⟩, d1, e1, f1, f2⟩ := h
    refine ⟨h1, ⟨by rw [(h2 _ _ (by unfold mtX; omega)).1]; exact b1, b2, fun k hk => ?_⟩, ⟨by rw [(h2 _ _ (by unfold mtX; omega)).1]; exact c1, c2⟩, by rw [(h2 _ _ (by unfold mtX; omega)).1]; exact d1, by rw [(h2 _ _ (by unfold mtX; omega)).1]; exact e1, fun i hi => by rw [(h2 _ _ (by unfold mtX; omega)).2.1]; exact f1 i hi, fun i hi => by rw [(h2 _ _ (by unfold mtX; omega)).2.1]; exact f2 i hi⟩
    rw [(h2 _ _ (by unfold mtX; omega)).1, (h2 _ _ (by unfold mtX; omega)).1]
    exact b3 k hk
  exact ⟨M', e, h', psX_mt h2⟩
theorem MK.next (hS : ShOK S B) (hn : 1000 ≤ n) (h : MK M B ord tb l s mo ma nc pt) : ∃ M', F_Mo_next n E S (B + 105) M = some M' ∧ MK M' B ord tb l (nx tb l s) mo ma nc pt ∧ zAg (psX B) M M' := by
  obtain ⟨M', e, h1, h2⟩ := h.must1 (n := n) (E := E) hS hn
  refine ⟨M', ?_, h1, h2⟩
  unfold F_Mo_must F_Mo_must_b24 at e
  rw [hS.i105, obs, h.2.2.2.1, iL0, if_pos rfl, if_neg (show ¬ iI 1 = iI 0 by decide), obs, if_pos rfl] at e
  cases hx : F_Mo_next n E S (B + 105) M with
  | none => rw [hx] at e; cases e
  | some q => rw [hx, obs] at e; exact e
theorem MK.must0 (hS : ShOK S B) (h : MK M B ord tb l s mo ma nc pt) : ∃ M', F_Mo_must n E S (B + 105) (iI 0) M = some M' ∧ MBd M' B s ∧ zAg (psB B) M M' :=
  ⟨_, m_mustF hS h.1 h.2.2.2.1, ⟨by rw [mI_i (by decide), mI_s], mI_s⟩, (zAg.rfl'.setI (by unfold psB; omega)).setI (by unfold psB; omega)⟩
theorem hd_loop (hS : ShOK S B) (h : LM M B tb l s) (hC : ∀ i, i < 4 → mJ M (B + 122) i = jJ (cH i)) : ∀ (r k fuel : Nat), k + r = 4 → r < fuel → zfix (fun r4 s => F_Mo_readLaw_L4 n E S r4 s.1 s.2.1 s.2.2.1 s.2.2.2) fuel (B + 105, iI (wix tb l s cH k), iI (k : Int), M) = F_Mo_readLaw_L4 n E S (zfix (fun r4 s => F_Mo_readLaw_L4 n E S r4 s.1 s.2.1 s.2.2.1 s.2.2.2) (fuel - r - 1)) (B + 105) (iI (wix tb l s cH 4)) (iI 4) M := by
  intro r
  induction r with
  | zero =>
    intro k fuel hk hf
    obtain ⟨fuel, rfl⟩ : ∃ f', fuel = f' + 1 := ⟨fuel - 1, by omega⟩
    rw [show k = 4 by omega]
    rfl
  | succ r ih =>
    intro k fuel hk hf
    obtain ⟨fuel, rfl⟩ : ∃ f', fuel = f' + 1 := ⟨fuel - 1, by omega⟩
    have i1 := ih (k + 1) fuel (by omega) (by omega)
    rw [show fuel + 1 - (r + 1) - 1 = fuel - r - 1 by omega, ← i1]
    show F_Mo_readLaw_L4 n E S (zfix (fun r4 s => F_Mo_readLaw_L4 n E S r4 s.1 s.2.1 s.2.2.1 s.2.2.2) fuel) (B + 105) (iI (wix tb l s cH k)) (iI (k : Int)) M = _
    generalize zfix (fun r4 s => F_Mo_readLaw_L4 n E S r4 s.1 s.2.1 s.2.2.1 s.2.2.2) fuel = rec
    have cb := cW_b.2.2.1 k (by omega)
    unfold F_Mo_readLaw_L4 F_Mo_readLaw_b27
    rw [show (4 : Int32) = iI 4 by decide, if_neg (cleF (by omega) (by omega) (by omega)), hS.g105_33, obs, hS.r122 (by omega) (by omega), obs, Int.toNat_natCast, hC k (by omega), m_isWord hS h cb.1 cb.2, obs, iL1, iI_add, wix_s]
    by_cases c : kdT tb l s = 1 ∧ wT tb l s = cH k
    · rw [if_pos (decide_eq_true c), if_pos c]; rfl
    · rw [if_neg (fun z => c (of_decide_eq_true z)), if_neg c]; rfl
theorem z_loop (hS : ShOK S B) {x1 : Int32} (hc : cl < 12) : ∀ (r k fuel : Nat) (M : zH), k + r = 8 → r < fuel → ∃ M' m, zfix (fun r75 s => F_Mo_readLaw_L75 n E S r75 s.1 s.2.1 s.2.2.1 s.2.2.2.1 s.2.2.2.2) fuel (B + 105, x1, iI ((8 * cl : Nat) : Int), iI (k : Int), M) = F_Mo_readLaw_L75 n E S (zfix (fun r75 s => F_Mo_readLaw_L75 n E S r75 s.1 s.2.1 s.2.2.1 s.2.2.2.1 s.2.2.2.2) m) (B + 105) x1 (iI ((8 * cl : Nat) : Int)) (iI 8) M' ∧ zAg (fun b j => b = B + 115 ∧ 8 * cl ≤ j ∧ j < 8 * cl + 8) M M' := by
  intro r
  induction r with
  | zero =>
    intro k fuel M hk hf
    obtain ⟨fuel, rfl⟩ : ∃ f', fuel = f' + 1 := ⟨fuel - 1, by omega⟩
    rw [show k = 8 by omega]
    exact ⟨M, fuel, rfl, zAg.rfl'⟩
  | succ r ih =>
    intro k fuel M hk hf
    obtain ⟨fuel, rfl⟩ : ∃ f', fuel = f' + 1 := ⟨fuel - 1, by omega⟩
    obtain ⟨M', m, e, hA⟩ := ih (k + 1) fuel (setI M (B + 115) (8 * cl + k) (iI 0)) (by omega) (by omega)
    refine ⟨M', m, ?_, (zAg.rfl'.setI ⟨rfl, by omega, by omega⟩).trans hA⟩
    rw [← e]
    show F_Mo_readLaw_L75 n E S (zfix (fun r75 s => F_Mo_readLaw_L75 n E S r75 s.1 s.2.1 s.2.2.1 s.2.2.2.1 s.2.2.2.2) fuel) (B + 105) x1 (iI ((8 * cl : Nat) : Int)) (iI (k : Int)) M = _
    generalize zfix (fun r75 s => F_Mo_readLaw_L75 n E S r75 s.1 s.2.1 s.2.2.1 s.2.2.2.1 s.2.2.2.2) fuel = rec
    unfold F_Mo_readLaw_L75
    rw [show (8 : Int32) = iI 8 by decide, if_neg (cleF (by omega) (by omega) (by omega)), hS.g105_22, obs, iI_add, iL0, hS.w115 (by omega) (by omega), obs, iL1, iI_add, show (((8 * cl : Nat) : Int) + (k : Int)).toNat = 8 * cl + k by omega]
    rfl
/-- the model's cells of clause cl of a law -/
def NC (M : zH) (B q cl : Nat) (i : Nat) (v : Int) : Prop := mI M (B + q) (8 * cl + i) = iI v
theorem m_head0 (hS : ShOK S B) (hn : 1000 ≤ n) (h : MK MM B ord tb l s mo ma nc pt) (hC : ∀ i, i < 4 → mJ MM (B + 122) i = jJ (cH i)) (h21 : mI MM (B + 105) 21 = iI (cl : Int)) (hcl : cl ≤ 12) (hb : wix tb l s cH 4 = -1 ∨ cl = 12) : ∃ MM', F_Mo_readLaw n E S (B + 105) MM = some MM' ∧ MBd MM' B s ∧ zAg (psB B) MM MM' := by
  obtain ⟨M1, e1, g1, hA1⟩ := h.must0 (n := n) (E := E) hS
  refine ⟨M1, ?_, g1, hA1⟩
  have e := hd_loop (n := n) (E := E) hS h.1 hC 4 0 n (by omega) (by omega)
  rw [wix_0] at e
  unfold F_Mo_readLaw F_Mo_readLaw_b4
  rw [show (-1 : Int32) = iI (-1) by decide, show (0 : Int32) = iI ((0 : Nat) : Int) by decide, e]
  generalize zfix (fun r4 s => F_Mo_readLaw_L4 n E S r4 s.1 s.2.1 s.2.2.1 s.2.2.2) (n - 4 - 1) = rec
  have e53 : ∀ x1, F_Mo_readLaw_b53 n E S (B + 105) x1 (B + 105) MM = some M1 := fun x1 => by
    unfold F_Mo_readLaw_b53 F_Mo_readLaw_b54
    rw [hS.ck105, obs, iL0, e1, obs, hS.i105, obs, g1.1, if_neg (show ¬ iI 1 = iI 0 by decide)]
  have wb := wix_b (tb := tb) (l := l) (s := s) (C := cH) (k := 4)
  unfold F_Mo_readLaw_L4
  rw [if_pos (show (4 : Int32) ≤ iI 4 by decide)]
  by_cases c : wix tb l s cH 4 = -1
  · rw [c, if_pos (show iI (-1) = -1 by decide)]; exact e53 _
  · rw [if_neg (show ¬ iI (wix tb l s cH 4) = -1 from ceqF (y := -1) (by omega) (by omega) (by omega) (by omega) (by omega)), hS.i105, obs, h21, show (12 : Int32) = iI 12 by decide, if_pos (cleT (by omega) (by omega) (by omega))]; exact e53 _
theorem m_head (hS : ShOK S B) (hn : 1000 ≤ n) (h : MK MM B ord tb l s mo ma nc pt) (hC : ∀ i, i < 4 → mJ MM (B + 122) i = jJ (cH i)) (h21 : mI MM (B + 105) 21 = iI (cl : Int)) (hcl : cl < 12) (hk : wix tb l s cH 4 = kd) (hk0 : kd ≠ -1) : ∃ MM1, (F_Mo_readLaw n E S (B + 105) MM = if kd = 3 then F_Mo_readLaw_b135 n E S (B + 105) (iI ((8 * cl : Nat) : Int)) MM1 else (F_Mo_readExpression n E S (B + 105) (iI 0) MM1).bind fun q => F_Mo_readLaw_b135 n E S (B + 105) (iI ((8 * cl : Nat) : Int)) q) ∧ MK MM1 B ord tb l (nx tb l s) mo ma nc pt ∧ mI MM1 (B + 105) 21 = iI ((cl + 1 : Nat) : Int) ∧ NC MM1 B 115 cl 0 kd ∧ NC MM1 B 115 cl 3 nc ∧ zAg (lwX B 115 cl) MM MM1 := by
  obtain ⟨M1, e1, g1, hA1⟩ := h.must1 (n := n) (E := E) hS hn
  have g21 : mI M1 (B + 105) 21 = iI (cl : Int) := by rw [(hA1 _ _ (by unfold psX; omega)).1]; exact h21
  obtain ⟨M2, m, e2, hA2⟩ := z_loop (n := n) (E := E) hS (x1 := iI kd) hcl 8 0 n M1 (by omega) (by omega)
  have hA3 : zAg (fun b j => (b = B + 105 ∧ j = 21) ∨ (b = B + 115 ∧ 8 * cl ≤ j ∧ j < 8 * cl + 8)) M2 (setI (setI (setI M2 (B + 115) (8 * cl) (iI kd)) (B + 105) 21 (iI ((cl : Int) + 1))) (B + 115) (8 * cl + 3) (iI (nc : Int))) := ((zAg.rfl'.setI (Or.inr ⟨rfl, by omega, by omega⟩)).setI (Or.inl ⟨rfl, rfl⟩)).setI (Or.inr ⟨rfl, by omega, by omega⟩)
  have g2 : MK M2 B ord tb l (nx tb l s) mo ma nc pt := g1.ag hA2 (fun j q => by omega) (fun b j q => by omega)
  refine ⟨setI (setI (setI M2 (B + 115) (8 * cl) (iI kd)) (B + 105) 21 (iI ((cl : Int) + 1))) (B + 115) (8 * cl + 3) (iI (nc : Int)), ?_, g2.ag hA3 (fun j q => by omega) (fun b j q => by omega), ?_, ?_, ?_, ((psX_lw hA1).trans (hA2.mono (fun b j q => by unfold lwX; omega))).trans (hA3.mono (fun b j q => by unfold lwX; omega))⟩
  · have e := hd_loop (n := n) (E := E) hS h.1 hC 4 0 n (by omega) (by omega)
    have wb := wix_b (tb := tb) (l := l) (s := s) (C := cH) (k := 4)
    rw [wix_0] at e
    unfold F_Mo_readLaw F_Mo_readLaw_b4
    rw [show (-1 : Int32) = iI (-1) by decide, show (0 : Int32) = iI ((0 : Nat) : Int) by decide, e]
    generalize zfix (fun r4 s => F_Mo_readLaw_L4 n E S r4 s.1 s.2.1 s.2.2.1 s.2.2.2) (n - 4 - 1) = rec
    unfold F_Mo_readLaw_L4
    rw [if_pos (show (4 : Int32) ≤ iI 4 by decide), hk, if_neg (show ¬ iI kd = -1 from ceqF (y := -1) hk0 (by omega) (by omega) (by omega) (by omega)), hS.i105, obs, h21, show (12 : Int32) = iI 12 by decide, if_neg (cleF (by omega) (by omega) (by omega))]
    unfold F_Mo_readLaw_b54 F_Mo_readLaw_b75
    rw [hS.ck105, obs, iL1, e1, obs, hS.i105, obs, g1.2.2.2.1, iL0, if_pos rfl, hS.i105, obs, g21, show (8 : Int32) = iI 8 by decide, iI_mul, show (8 : Int) * (cl : Int) = ((8 * cl : Nat) : Int) by omega, show iI 0 = iI ((0 : Nat) : Int) from rfl, e2]
    generalize zfix (fun r75 s => F_Mo_readLaw_L75 n E S r75 s.1 s.2.1 s.2.2.1 s.2.2.2.1 s.2.2.2.2) m = rec
    have h21' : mI M2 (B + 105) 21 = iI (cl : Int) := by rw [(hA2 _ _ (by omega)).1]; exact g21
    unfold F_Mo_readLaw_L75
    rw [if_pos (show (8 : Int32) ≤ iI 8 by decide), hS.g105_22, obs, hS.w115 (by omega) (by omega), obs, hS.i105, obs, Int.toNat_natCast, mI_a (by omega), h21', iL1, iI_add, hS.p105, obs, hS.i105, obs, mI_i (by decide), mI_a (by omega), g2.2.1.1, show (3 : Int32) = iI 3 by decide, iI_add, hS.w115 (by omega) (by omega), obs, show (((8 * cl : Nat) : Int) + 3).toNat = 8 * cl + 3 by omega, iL0]
    by_cases c : kd = 3
    · rw [if_pos c, if_pos (ceqT c)]
    · rw [if_neg c, if_neg (ceqF c (by omega) (by omega) (by omega) (by omega))]; rfl
  · rw [mI_a (by omega), mI_s]; rfl
  · show mI _ (B + 115) (8 * cl + 0) = iI kd
    rw [mI_i (by omega), mI_a (by omega)]
    exact mI_s
  · exact mI_s
/-- the model, behind a law's sum, bad -/
theorem m_135bad (hS : ShOK S B) (hcl : cl < 12) (h : MBd MM B s') : ∃ MM', F_Mo_readLaw_b135 n E S (B + 105) (iI ((8 * cl : Nat) : Int)) MM = some MM' ∧ MBd MM' B s' ∧ zAg (lwX B 115 cl) MM MM' := by
  have w : ∀ {i : Nat} {v : Int32} {M : zH}, i < 8 → zstI S M (B + 115) (iI ((8 * cl : Nat) : Int) + iI (i : Int)) v = some (setI M (B + 115) (8 * cl + i) v) := fun {i v M} hi => by
    rw [iI_add, hS.w115 (by omega) (by omega), show (((8 * cl : Nat) : Int) + (i : Int)).toNat = 8 * cl + i by omega]
  have hA : ∀ a b c : Int32, zAg (fun x j => x = B + 115 ∧ 8 * cl ≤ j ∧ j < 8 * cl + 8) MM (setI (setI (setI MM (B + 115) (8 * cl + 4) a) (B + 115) (8 * cl + 5) b) (B + 115) (8 * cl + 6) c) := fun a b c => ((zAg.rfl'.setI ⟨rfl, by omega, by omega⟩).setI ⟨rfl, by omega, by omega⟩).setI ⟨rfl, by omega, by omega⟩
  refine ⟨_, ?_, ⟨?_, ?_⟩, (hA (mI MM (B + 105) 23) (mI MM (B + 105) 23) (mI MM (B + 105) 23)).mono (fun b j q => by unfold lwX; omega)⟩
  · unfold F_Mo_readLaw_b135 F_Mo_readLaw_b185
    rw [hS.g105_22, obs, hS.i105, obs, show (4 : Int32) = iI ((4 : Nat) : Int) by decide, w (by omega), obs, hS.i105, obs, mI_a (by omega), show (5 : Int32) = iI ((5 : Nat) : Int) by decide, w (by omega), obs, hS.i105, obs, mI_a (by omega), mI_a (by omega), h.1, iL0, if_neg (show ¬ iI 1 = iI 0 by decide), obs, hS.i105, obs, mI_a (by omega), mI_a (by omega), show (6 : Int32) = iI ((6 : Nat) : Int) by decide, w (by omega), obs]
  · rw [(hA _ _ _ _ _ (by omega)).1]; exact h.1
  · rw [(hA _ _ _ _ _ (by omega)).1]; exact h.2
/-- the model, behind a law's sum -/
theorem m_135 (hS : ShOK S B) (hcl : cl < 12) (h : MK MM B ord tb l s mo ma nc pt) : ∃ MM1, MK MM1 B ord tb l s mo ma nc pt ∧ NC MM1 B 115 cl 4 nc ∧ NC MM1 B 115 cl 5 nc ∧ zAg (fun b j => b = B + 115 ∧ (j = 8 * cl + 4 ∨ j = 8 * cl + 5)) MM MM1 ∧ F_Mo_readLaw_b135 n E S (B + 105) (iI ((8 * cl : Nat) : Int)) MM = if wis tb l s 294 = true then (F_Mo_next n E S (B + 105) MM1).bind fun q_13 => (F_Mo_readExpression n E S (B + 105) (iI 1) q_13).bind fun q_14 => F_Mo_readLaw_b185 n E S (B + 105) (iI ((8 * cl : Nat) : Int)) q_14 else F_Mo_readLaw_b185 n E S (B + 105) (iI ((8 * cl : Nat) : Int)) MM1 := by
  have hA : zAg (fun b j => b = B + 115 ∧ (j = 8 * cl + 4 ∨ j = 8 * cl + 5)) MM (setI (setI MM (B + 115) (8 * cl + 4) (iI (nc : Int))) (B + 115) (8 * cl + 5) (iI (nc : Int))) := (zAg.rfl'.setI ⟨rfl, by omega⟩).setI ⟨rfl, by omega⟩
  have h' : MK (setI (setI MM (B + 115) (8 * cl + 4) (iI (nc : Int))) (B + 115) (8 * cl + 5) (iI (nc : Int))) B ord tb l s mo ma nc pt := h.ag hA (fun j q => by omega) (fun b j q => by omega)
  have w : ∀ {i : Nat} {v : Int32} {M : zH}, i < 8 → zstI S M (B + 115) (iI ((8 * cl : Nat) : Int) + iI (i : Int)) v = some (setI M (B + 115) (8 * cl + i) v) := fun {i v M} hi => by
    rw [iI_add, hS.w115 (by omega) (by omega), show (((8 * cl : Nat) : Int) + (i : Int)).toNat = 8 * cl + i by omega]
  refine ⟨_, h', ?_, mI_s, hA, ?_⟩
  · show mI _ (B + 115) (8 * cl + 4) = _
    rw [mI_i (by omega), mI_s]
  · unfold F_Mo_readLaw_b135
    rw [hS.g105_22, obs, hS.i105, obs, h.2.1.1, show (4 : Int32) = iI ((4 : Nat) : Int) by decide, w (by omega), obs, hS.i105, obs, mI_a (by omega), h.2.1.1, show (5 : Int32) = iI ((5 : Nat) : Int) by decide, w (by omega), obs, hS.i105, obs, h'.2.2.2.1, iL0, if_pos rfl, show (294 : Int64) = jJ 294 by decide, m_isWord hS h'.1 (by omega) (by omega), obs, iL1]
    rfl
theorem m_185 (hS : ShOK S B) (hcl : cl < 12) : F_Mo_readLaw_b185 n E S (B + 105) (iI ((8 * cl : Nat) : Int)) MM = some (setI MM (B + 115) (8 * cl + 6) (mI MM (B + 105) 23)) := by
  unfold F_Mo_readLaw_b185
  rw [hS.g105_22, obs, hS.i105, obs, show (6 : Int32) = iI 6 by decide, iI_add, hS.w115 (by omega) (by omega), obs, show (((8 * cl : Nat) : Int) + 6).toNat = 8 * cl + 6 by omega]
end
