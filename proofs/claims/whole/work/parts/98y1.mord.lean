/-! orders: the model's clauses -/
/-- what a stage changes: cells from i to k of clause cl -/
def ocX (B cl i k : Nat) : Nat → Nat → Prop := fun b j => psX B b j ∨ (b = B + 134 ∧ 8 * cl + i ≤ j ∧ j < 8 * cl + k)
def ocB (B cl : Nat) : Nat → Nat → Prop := fun b j => psB B b j ∨ (b = B + 134 ∧ 8 * cl ≤ j ∧ j < 8 * cl + 8)
section
variable {n : Nat} {E : zE} {S : zS} {M M' MM : zH} {B : Nat} {ord : Bool} {tb : Nat → Int} {l cl s s' : Nat} {mo ma : Nat → Int} {nc pt : Nat} {kd : Int}
theorem oc_ps {i k : Nat} (h : zAg (psX B) M M') : zAg (ocX B cl i k) M M' := h.mono (fun b j z => Or.inl z)
theorem oc_ob {i k : Nat} (h : zAg (ocX B cl i k) M M') (hk : k ≤ 8) : zAg (ocB B cl) M M' := h.mono (fun b j z => by unfold ocX psX at z; unfold ocB psB; omega)
theorem ob_ps (h : zAg (psB B) M M') : zAg (ocB B cl) M M' := h.mono (fun b j z => Or.inl z)
theorem oc_up {i k i' k' : Nat} (h : zAg (ocX B cl i k) M M') (h1 : i' ≤ i) (h2 : k ≤ k') : zAg (ocX B cl i' k') M M' := h.mono (fun b j z => by unfold ocX psX at z ⊢; omega)
theorem oc_set {i : Nat} {v : Int32} : zAg (ocX B cl i (i + 1)) M (setI M (B + 134) (8 * cl + i) v) := zAg.rfl'.setI (Or.inr ⟨rfl, by omega, by omega⟩)
theorem ob_set {i : Nat} {v : Int32} (hi : i < 8) : zAg (ocB B cl) M (setI M (B + 134) (8 * cl + i) v) := zAg.rfl'.setI (Or.inr ⟨rfl, by omega, by omega⟩)
theorem w134 (hS : ShOK S B) (hcl : cl < 12) {i : Nat} {v : Int32} (hi : i < 8) : zstI S M (B + 134) (iI ((8 * cl : Nat) : Int) + iI (i : Int)) v = some (setI M (B + 134) (8 * cl + i) v) := by
  rw [iI_add, hS.w134 (by omega) (by omega), show (((8 * cl : Nat) : Int) + (i : Int)).toNat = 8 * cl + i by omega]
theorem MK.s134 {j : Nat} {v : Int32} (h : MK M B ord tb l s mo ma nc pt) : MK (setI M (B + 134) j v) B ord tb l s mo ma nc pt := h.ag (X := fun b _ => b = B + 134) (zAg.rfl'.setI rfl) (fun j q => by omega) (fun b j q => by omega)
theorem MBd.s134 {j : Nat} {v : Int32} (h : MBd M B s') : MBd (setI M (B + 134) j v) B s' := ⟨by rw [mI_a (by omega)]; exact h.1, by rw [mI_a (by omega)]; exact h.2⟩
theorem ac_loop (hS : ShOK S B) (h : LM M B tb l s) (hC : ∀ i, i < 4 → mJ M (B + 133) i = jJ (cA i)) : ∀ (r k fuel : Nat), k + r = 4 → r < fuel → zfix (fun r4 s => F_Mo_readOrder_L4 n E S r4 s.1 s.2.1 s.2.2.1 s.2.2.2) fuel (B + 105, iI (wix tb l s cA k), iI (k : Int), M) = F_Mo_readOrder_L4 n E S (zfix (fun r4 s => F_Mo_readOrder_L4 n E S r4 s.1 s.2.1 s.2.2.1 s.2.2.2) (fuel - r - 1)) (B + 105) (iI (wix tb l s cA 4)) (iI 4) M := by
  intro r
  induction r with
  | zero =>
    intro k fuel hk hf
    obtain ⟨fuel, rfl⟩ : ∃ f', fuel = f' + 1 := ⟨fuel - 1, by omega⟩
    rw [show k = 4 by omega]
    rfl
  | succ r ih =>
    intro k fuel hk hf
    obtain ⟨fuel, rfl⟩ : ∃ f', fuel = f' + 1 := ⟨fuel - 1, by omega⟩
    have i1 := ih (k + 1) fuel (by omega) (by omega)
    rw [show fuel + 1 - (r + 1) - 1 = fuel - r - 1 by omega, ← i1]
    show F_Mo_readOrder_L4 n E S (zfix (fun r4 s => F_Mo_readOrder_L4 n E S r4 s.1 s.2.1 s.2.2.1 s.2.2.2) fuel) (B + 105) (iI (wix tb l s cA k)) (iI (k : Int)) M = _
    generalize zfix (fun r4 s => F_Mo_readOrder_L4 n E S r4 s.1 s.2.1 s.2.2.1 s.2.2.2) fuel = rec
    have cb := cW_b.2.2.2 k (by omega)
    unfold F_Mo_readOrder_L4 F_Mo_readOrder_b27
    rw [show (4 : Int32) = iI 4 by decide, if_neg (cleF (by omega) (by omega) (by omega)), hS.g105_48, obs, hS.r133 (by omega) (by omega), obs, Int.toNat_natCast, hC k (by omega), m_isWord hS h cb.1 cb.2, obs, iL1, iI_add, wix_s]
    by_cases c : kdT tb l s = 1 ∧ wT tb l s = cA k
    · rw [if_pos (decide_eq_true c), if_pos c]; rfl
    · rw [if_neg (fun z => c (of_decide_eq_true z)), if_neg c]; rfl
theorem z85 (hS : ShOK S B) {x1 : Int32} (hc : cl < 12) : ∀ (r k fuel : Nat) (M : zH), k + r = 8 → r < fuel → ∃ M' m, zfix (fun r85 s => F_Mo_readOrder_L85 n E S r85 s.1 s.2.1 s.2.2.1 s.2.2.2.1 s.2.2.2.2) fuel (B + 105, x1, iI ((8 * cl : Nat) : Int), iI (k : Int), M) = F_Mo_readOrder_L85 n E S (zfix (fun r85 s => F_Mo_readOrder_L85 n E S r85 s.1 s.2.1 s.2.2.1 s.2.2.2.1 s.2.2.2.2) m) (B + 105) x1 (iI ((8 * cl : Nat) : Int)) (iI 8) M' ∧ (∀ i, k ≤ i → i < 8 → mI M' (B + 134) (8 * cl + i) = iI 0) ∧ zAg (fun b j => b = B + 134 ∧ 8 * cl + k ≤ j ∧ j < 8 * cl + 8) M M' := by
  intro r
  induction r with
  | zero =>
    intro k fuel M hk hf
    obtain ⟨fuel, rfl⟩ : ∃ f', fuel = f' + 1 := ⟨fuel - 1, by omega⟩
    rw [show k = 8 by omega]
    exact ⟨M, fuel, rfl, fun i i1 i2 => by omega, zAg.rfl'⟩
  | succ r ih =>
    intro k fuel M hk hf
    obtain ⟨fuel, rfl⟩ : ∃ f', fuel = f' + 1 := ⟨fuel - 1, by omega⟩
    obtain ⟨M', m, e, g, hA⟩ := ih (k + 1) fuel (setI M (B + 134) (8 * cl + k) (iI 0)) (by omega) (by omega)
    refine ⟨M', m, ?_, fun i i1 i2 => ?_, (zAg.rfl'.setI ⟨rfl, by omega, by omega⟩).trans (hA.mono (fun b j q => by omega))⟩
    · rw [← e]
      show F_Mo_readOrder_L85 n E S (zfix (fun r85 s => F_Mo_readOrder_L85 n E S r85 s.1 s.2.1 s.2.2.1 s.2.2.2.1 s.2.2.2.2) fuel) (B + 105) x1 (iI ((8 * cl : Nat) : Int)) (iI (k : Int)) M = _
      generalize zfix (fun r85 s => F_Mo_readOrder_L85 n E S r85 s.1 s.2.1 s.2.2.1 s.2.2.2.1 s.2.2.2.2) fuel = rec
      unfold F_Mo_readOrder_L85
      rw [show (8 : Int32) = iI 8 by decide, if_neg (cleF (by omega) (by omega) (by omega)), hS.g105_49, obs, w134 hS hc (by omega), obs, iL0, iL1, iI_add]
      rfl
    · by_cases q : i = k
      · rw [q, (hA _ _ (by omega)).1, mI_s]
      · exact g i (by omega) i2
theorem a_head0 (hS : ShOK S B) (hn : 1000 ≤ n) (h : MK MM B ord tb l s mo ma nc pt) (hC : ∀ i, i < 4 → mJ MM (B + 133) i = jJ (cA i)) (h21 : mI MM (B + 105) 21 = iI (cl : Int)) (hcl : cl ≤ 12) (hb : wix tb l s cA 4 = -1 ∨ cl = 12) : ∃ MM', F_Mo_readOrder n E S (B + 105) MM = some MM' ∧ MBd MM' B s ∧ zAg (psB B) MM MM' := by
  obtain ⟨M1, e1, g1, hA1⟩ := h.must0 (n := n) (E := E) hS
  refine ⟨M1, ?_, g1, hA1⟩
  have e := ac_loop (n := n) (E := E) hS h.1 hC 4 0 n (by omega) (by omega)
  rw [wix_0] at e
  unfold F_Mo_readOrder F_Mo_readOrder_b4
  rw [show (-1 : Int32) = iI (-1) by decide, show (0 : Int32) = iI ((0 : Nat) : Int) by decide, e]
  generalize zfix (fun r4 s => F_Mo_readOrder_L4 n E S r4 s.1 s.2.1 s.2.2.1 s.2.2.2) (n - 4 - 1) = rec
  have e53 : ∀ x1, F_Mo_readOrder_b53 n E S (B + 105) x1 (B + 105) MM = some M1 := fun x1 => by
    unfold F_Mo_readOrder_b53 F_Mo_readOrder_b54
    rw [hS.ck105, obs, iL0, e1, obs, hS.i105, obs, g1.1, if_neg (show ¬ iI 1 = iI 0 by decide)]
  have wb := wix_b (tb := tb) (l := l) (s := s) (C := cA) (k := 4)
  unfold F_Mo_readOrder_L4
  rw [if_pos (show (4 : Int32) ≤ iI 4 by decide)]
  by_cases c : wix tb l s cA 4 = -1
  · rw [c, if_pos (show iI (-1) = -1 by decide)]; exact e53 _
  · rw [if_neg (show ¬ iI (wix tb l s cA 4) = -1 from ceqF (y := -1) (by omega) (by omega) (by omega) (by omega) (by omega)), hS.i105, obs, h21, show (12 : Int32) = iI 12 by decide, if_pos (cleT (by omega) (by omega) (by omega))]; exact e53 _
theorem a_head (hS : ShOK S B) (hn : 1000 ≤ n) (h : MK MM B ord tb l s mo ma nc pt) (hC : ∀ i, i < 4 → mJ MM (B + 133) i = jJ (cA i)) (h21 : mI MM (B + 105) 21 = iI (cl : Int)) (hcl : cl < 12) (hk : wix tb l s cA 4 = kd) (hk0 : kd ≠ -1) : ∃ MM1, (F_Mo_readOrder n E S (B + 105) MM = if kd = 3 then F_Mo_readOrder_b161 n E S (B + 105) (iI ((8 * cl : Nat) : Int)) MM1 else (F_Mo_readSum n E S (B + 105) (iI ((8 * cl : Nat) : Int) + iI ((1 : Nat) : Int)) MM1).bind fun q_32 => (zgI S q_32 (B + 105) 11 19).bind fun v_33 => if v_33 = iI 0 then F_Mo_readOrder_b148 n E S (B + 105) (iI ((8 * cl : Nat) : Int)) (jJ (if kd = 2 then 52 else 486)) (B + 105) (B + 105) q_32 else F_Mo_readOrder_b154 n E S (B + 105) (iI ((8 * cl : Nat) : Int)) q_32) ∧ MK MM1 B ord tb l (nx tb l s) mo ma nc pt ∧ mI MM1 (B + 105) 21 = iI ((cl + 1 : Nat) : Int) ∧ NC MM1 B 134 cl 0 kd ∧ (∀ i, 1 ≤ i → i < 8 → NC MM1 B 134 cl i 0) ∧ zAg (lwX B 134 cl) MM MM1 := by
  obtain ⟨M1, e1, g1, hA1⟩ := h.must1 (n := n) (E := E) hS hn
  have g21 : mI M1 (B + 105) 21 = iI (cl : Int) := by rw [(hA1 _ _ (by unfold psX; omega)).1]; exact h21
  have hA0 : zAg (fun b j => b = B + 105 ∧ j = 21) M1 (setI M1 (B + 105) 21 (iI ((cl : Int) + 1))) := zAg.rfl'.setI ⟨rfl, rfl⟩
  obtain ⟨M2, m, e2, z2, hA2⟩ := z85 (n := n) (E := E) hS (x1 := iI kd) hcl 8 0 n (setI M1 (B + 105) 21 (iI ((cl : Int) + 1))) (by omega) (by omega)
  have hA3 : zAg (ocX B cl 0 1) M2 (setI M2 (B + 134) (8 * cl) (iI kd)) := oc_set (cl := cl) (i := 0)
  have g2 : MK M2 B ord tb l (nx tb l s) mo ma nc pt := (g1.ag hA0 (fun j q => by omega) (fun b j q => by omega)).ag hA2 (fun j q => by omega) (fun b j q => by omega)
  refine ⟨setI M2 (B + 134) (8 * cl) (iI kd), ?_, g2.s134, ?_, mI_s, fun i i1 i2 => ?_, ((psX_lw hA1).trans (hA0.mono (fun b j q => by unfold lwX psX; omega))).trans ((hA2.mono (fun b j q => by unfold lwX psX; omega)).trans (hA3.mono (fun b j q => by unfold ocX psX at q; unfold lwX psX; omega)))⟩
  · have e := ac_loop (n := n) (E := E) hS h.1 hC 4 0 n (by omega) (by omega)
    have wb := wix_b (tb := tb) (l := l) (s := s) (C := cA) (k := 4)
    rw [wix_0] at e
    unfold F_Mo_readOrder F_Mo_readOrder_b4
    rw [show (-1 : Int32) = iI (-1) by decide, show (0 : Int32) = iI ((0 : Nat) : Int) by decide, e]
    generalize zfix (fun r4 s => F_Mo_readOrder_L4 n E S r4 s.1 s.2.1 s.2.2.1 s.2.2.2) (n - 4 - 1) = rec
    unfold F_Mo_readOrder_L4
    rw [if_pos (show (4 : Int32) ≤ iI 4 by decide), hk, if_neg (show ¬ iI kd = -1 from ceqF (y := -1) hk0 (by omega) (by omega) (by omega) (by omega)), hS.i105, obs, h21, show (12 : Int32) = iI 12 by decide, if_neg (cleF (by omega) (by omega) (by omega))]
    unfold F_Mo_readOrder_b54 F_Mo_readOrder_b85
    rw [hS.ck105, obs, iL1, e1, obs, hS.i105, obs, g1.2.2.2.1, show (0 : Int32) = iI 0 from iL0, if_pos rfl, hS.i105, obs, obs, g21, iI_add, hS.p105, obs, show (8 : Int32) = iI 8 by decide, iI_mul, show (8 : Int) * (cl : Int) = ((8 * cl : Nat) : Int) by omega, show iI 0 = iI ((0 : Nat) : Int) from rfl, e2]
    generalize zfix (fun r85 s => F_Mo_readOrder_L85 n E S r85 s.1 s.2.1 s.2.2.1 s.2.2.2.1 s.2.2.2.2) m = rec
    have w0 := w134 (M := M2) (v := iI kd) hS hcl (i := 0) (by omega)
    rw [show iI ((8 * cl : Nat) : Int) + iI ((0 : Nat) : Int) = iI ((8 * cl : Nat) : Int) by rw [iI_add]; congr 1] at w0
    unfold F_Mo_readOrder_L85
    rw [if_pos (show (8 : Int32) ≤ iI 8 by decide), hS.g105_49, obs, w0, obs, show (3 : Int32) = iI 3 by decide]
    by_cases c : kd = 3
    · rw [if_pos c, if_pos (ceqT c)]; rfl
    · rw [if_neg c, if_neg (ceqF c (by omega) (by omega) (by omega) (by omega)), show (2 : Int32) = iI 2 by decide]
      by_cases c2 : kd = 2
      · have q2 : (iI kd = iI 2) = True := eq_true (ceqT c2)
        rw [if_pos c2]
        simp only [q2, if_true]
        rfl
      · have q2 : (iI kd = iI 2) = False := eq_false (ceqF c2 (by omega) (by omega) (by omega) (by omega))
        rw [if_neg c2]
        simp only [q2, if_false]
        rfl
  · rw [mI_a (by omega), (hA2 _ _ (by omega)).1, mI_s]; rfl
  · show mI _ (B + 134) (8 * cl + i) = iI 0
    rw [mI_i (by omega)]; exact z2 i (by omega) i2
end
