/-! law: what a law tells, both sides; the model's row -/
def cvA (D : Ds) (w : Nat → Int) : Option Int := match D.2.2.2.2 with
  | none => if D.1 = 3 then some 1 else D.2.2.1 w
  | some g => if g w = some 1 then (if D.1 = 3 then some 1 else D.2.2.1 w) else none
theorem cvC_D {st : Nat → Int} {len c wm : Nat} {kd : Nat → Int} {mk : Nat → Nat → Nat} {D : Ds} (hk : kd c = D.1) (h4 : D.1 ≠ 3 → sgC st 9 (mk c 0) (mk c 1) 50 D.2.2.1) (h5 : tgC st 9 (mk c 2) (mk c 3) wm D.2.2.2.2) (m1 : mk c 1 ≤ len) (m3 : mk c 3 ≤ len) (hl : len ≤ 400) (w : Nat → Int) : cvC st len kd mk c w = cvA D w := by
  have base : (if kd c = 3 then some 1 else rC st 9 w (min (mk c 1) len) 500 (mk c 0) []) = if D.1 = 3 then some 1 else D.2.2.1 w := by
    rw [hk]
    by_cases q : D.1 = 3
    · rw [if_pos q, if_pos q]
    · rw [if_neg q, if_neg q, Nat.min_eq_left m1]
      exact (h4 q).run (by omega) (by omega) (by omega) w
  unfold cvC cvA
  rw [base]
  cases hg : D.2.2.2.2 with
  | none =>
    rw [hg] at h5
    have h5' : mk c 2 = mk c 3 := h5
    dsimp only
    rw [if_neg (fun q => by omega)]
  | some g =>
    rw [hg] at h5
    obtain ⟨q1, q2, q3, q4⟩ := h5
    dsimp only
    have e : rC st 9 w (min (mk c 3) len) 500 (mk c 2) [] = g w := by
      rw [Nat.min_eq_left m3]
      exact q3.run (by omega) (by omega) (by omega) w
    rw [e]
    by_cases z : g w = some 1
    · rw [if_pos z, if_neg (fun q => q.2 z)]
    · rw [if_neg z, if_pos ⟨q1, z⟩]
theorem cvM_D {mo ma hd : Nat → Int} {sg : Nat → Nat → Nat} {c nc : Nat} {D : Ds} (hk : hd c = D.1) (h4 : D.1 ≠ 3 → sgM false mo ma (fun _ => True) (sg c 3) (sg c 4) 50 D.2.2.1) (h5 : tgM false mo ma (sg c 5) (sg c 6) D.2.2.2.2) (ht : ∀ g, D.2.2.2.2 = some g → tst g) (m4 : sg c 4 ≤ nc) (m6 : sg c 6 ≤ nc) (hl : nc ≤ 400) (w : Nat → Int) : cvM mo ma hd sg c w = some (cvA D w) := by
  have base : (if hd c = 3 then some (some 1) else rM false mo ma w (sg c 4) 500 (sg c 3) []) = some (if D.1 = 3 then some 1 else D.2.2.1 w) := by
    rw [hk]
    by_cases q : D.1 = 3
    · rw [if_pos q, if_pos q]
    · rw [if_neg q, if_neg q]
      exact (h4 q).run (by omega) (by omega) (by omega) w trivial
  unfold cvM cvA
  cases hg : D.2.2.2.2 with
  | none =>
    rw [hg] at h5
    have h5' : sg c 5 = sg c 6 := h5
    rw [if_neg (fun q => by omega)]
    dsimp only
    rw [if_neg (by decide)]
    exact base
  | some g =>
    rw [hg] at h5
    rw [if_pos h5.1, h5.2.run (by omega) (by omega) (by omega) w trivial]
    cases hw : g w with
    | none =>
      dsimp only
      rw [if_neg (show ¬ g w = some 1 by rw [hw]; decide)]
    | some v =>
      dsimp only
      rcases ht g hg w v hw with q | q
      · rw [if_pos q, if_neg (show ¬ g w = some 1 by rw [hw, q]; exact fun z => absurd (Option.some.inj z) (by decide))]
      · rw [if_neg (show ¬ v = 0 by omega), if_pos (show g w = some 1 by rw [hw, q])]
        exact base
theorem RwN.la {R R' : Nat → Int32} {N : Nt} {v : Int} (h : RwN R N) (h2 : R' 2 = iI v) (e : ∀ i, i < 80 → i ≠ 2 → R' i = R i) : RwN R' (nset N 13 0 v) := by
  obtain ⟨⟨h1, h2', h3, h4⟩, h5, h6, h7, h8, h9⟩ := h
  exact ⟨⟨(e 0 (by omega) (by omega)).trans h1, (e 1 (by omega) (by omega)).trans h2', h2, (e 3 (by omega) (by omega)).trans h4⟩, fun k hk => ⟨(e _ (by omega) (by omega)).trans (h5 k hk).1, (e _ (by omega) (by omega)).trans (h5 k hk).2.1, (e _ (by omega) (by omega)).trans (h5 k hk).2.2⟩, fun k hk => (e _ (by omega) (by omega)).trans (h6 k hk), fun k hk => ⟨(e _ (by omega) (by omega)).trans (h7 k hk).1, (e _ (by omega) (by omega)).trans (h7 k hk).2.1, (e _ (by omega) (by omega)).trans (h7 k hk).2.2⟩, fun k hk => (e _ (by omega) (by omega)).trans (h8 k hk), fun k hk => ⟨(e _ (by omega) (by omega)).trans (h9 k hk).1, (e _ (by omega) (by omega)).trans (h9 k hk).2⟩⟩
theorem NdOK.s13 {N : Nt} (hN : NdOK N) {v : Int} (h1 : 0 ≤ v) (h2 : v ≤ 6) (h3 : N 14 0 < v) : NdOK (nset N 13 0 v) := by
  obtain ⟨a0, a1, a2, a3, a4, a5, a6, a7, a8, a9, a10, a11, a12, a13, a14, a15, a16⟩ := hN
  exact ⟨a0, a1, a2, a3, a4, a5, a6, a7, a8, a9, a10, a11, a12, a13, a14, ⟨h1, h2⟩, ⟨a16.1, h3⟩⟩
section
variable {n : Nat} {E : zE} {S : zS} {M : zH} {B : Nat}
theorem lp110 (hS : ShOK S B) {cl x : Nat} (hc : cl ≤ 12) (hx : x ≤ 4580) : ∀ (r k fuel : Nat) (M : zH), k + r = 8 * cl → r < fuel → mI M (B + 105) 21 = iI (cl : Int) → ∃ M', zfix (fun r110 s => F_Mo_law_L110 n E S r110 s.1 s.2.1 s.2.2.1 s.2.2.2) fuel (B + 105, iI (x : Int), iI (k : Int), M) = F_Mo_law_b145 n E S (B + 105, iI (x : Int), iI ((0 : Nat) : Int), M') ∧ (∀ i, k ≤ i → i < 8 * cl → mI M' (B + 107) (x + 2 + i) = mI M (B + 115) i) ∧ zAg (fun b j => b = B + 107 ∧ x + 2 + k ≤ j ∧ j < x + 2 + 8 * cl) M M' := by
  intro r
  induction r with
  | zero =>
    intro k fuel M hk hf h21
    obtain ⟨fuel, rfl⟩ : ∃ f', fuel = f' + 1 := ⟨fuel - 1, by omega⟩
    refine ⟨M, ?_, fun i i1 i2 => by omega, zAg.rfl'⟩
    show F_Mo_law_L110 n E S _ (B + 105) (iI (x : Int)) (iI (k : Int)) M = _
    generalize zfix (fun r110 s => F_Mo_law_L110 n E S r110 s.1 s.2.1 s.2.2.1 s.2.2.2) fuel = rec
    unfold F_Mo_law_L110
    rw [hS.i105, obs, h21, iL8, iI_mul, if_pos (cleT (by omega) (by omega) (by omega))]
    rfl
  | succ r ih =>
    intro k fuel M hk hf h21
    obtain ⟨fuel, rfl⟩ : ∃ f', fuel = f' + 1 := ⟨fuel - 1, by omega⟩
    obtain ⟨M', e, g1, g2⟩ := ih (k + 1) fuel (setI M (B + 107) (x + 2 + k) (mI M (B + 115) k)) (by omega) (by omega) (by rw [mI_a (by omega)]; exact h21)
    refine ⟨M', ?_, fun i i1 i2 => ?_, (zAg.rfl'.setI ⟨rfl, by omega, by omega⟩).trans (g2.mono (fun b j q => by omega))⟩
    · rw [← e]
      show F_Mo_law_L110 n E S (zfix (fun r110 s => F_Mo_law_L110 n E S r110 s.1 s.2.1 s.2.2.1 s.2.2.2) fuel) (B + 105) (iI (x : Int)) (iI (k : Int)) M = _
      generalize zfix (fun r110 s => F_Mo_law_L110 n E S r110 s.1 s.2.1 s.2.2.1 s.2.2.2) fuel = rec
      unfold F_Mo_law_L110
      rw [hS.i105, obs, h21, iL8, iI_mul, if_neg (cleF (by omega) (by omega) (by omega)), hS.g105_3, obs, hS.g105_22, obs, hS.r115 (by omega) (by omega), obs, Int.toNat_natCast, show (2 : Int32) = iI 2 by decide, iI_add, iI_add, hS.w107 (by omega) (by omega), obs, iL1, iI_add, show ((x : Int) + 2 + (k : Int)).toNat = x + 2 + k by omega]
      rfl
    · by_cases q : i = k
      · rw [q, (g2 _ _ (by omega)).1, mI_s]
      · rw [g1 i (by omega) i2, mI_a (by omega)]
theorem lp145 (hS : ShOK S B) {nc x j : Nat} (hc : nc ≤ 400) (hx : x ≤ 4580) (hx80 : 80 ≤ x) (hj : j < 6) : ∀ (r k fuel : Nat) (M : zH), k + r = nc → r < fuel → mI M (B + 105) 23 = iI (nc : Int) → mI M (B + 107) 2 = iI (j : Int) → ∃ M', zfix (fun r145 s => F_Mo_law_L145 n E S r145 s.1 s.2.1 s.2.2.1 s.2.2.2) fuel (B + 105, iI (x : Int), iI (k : Int), M) = F_Mo_tell n E S (B + 105) (iI (j : Int)) M' ∧ (∀ i, k ≤ i → i < nc → mI M' (B + 107) (x + 98 + 2 * i) = mI M (B + 116) i ∧ mI M' (B + 107) (x + 98 + 2 * i + 1) = mI M (B + 117) i) ∧ mI M' (B + 107) 2 = iI ((j : Int) + 1) ∧ zAg (fun b i => b = B + 107 ∧ (i = 2 ∨ (x + 98 + 2 * k ≤ i ∧ i < x + 98 + 2 * nc))) M M' := by
  intro r
  induction r with
  | zero =>
    intro k fuel M hk hf h23 h2
    obtain ⟨fuel, rfl⟩ : ∃ f', fuel = f' + 1 := ⟨fuel - 1, by omega⟩
    refine ⟨setI M (B + 107) 2 (iI ((j : Int) + 1)), ?_, fun i i1 i2 => by omega, mI_s, zAg.rfl'.setI ⟨rfl, Or.inl rfl⟩⟩
    show F_Mo_law_L145 n E S _ (B + 105) (iI (x : Int)) (iI (k : Int)) M = _
    generalize zfix (fun r145 s => F_Mo_law_L145 n E S r145 s.1 s.2.1 s.2.2.1 s.2.2.2) fuel = rec
    unfold F_Mo_law_L145
    rw [hS.i105, obs, h23, if_pos (cleT (by omega) (by omega) (by omega)), hS.g105_3, obs, show (2 : Int32) = iI 2 by decide, hS.r107 (by omega) (by omega), obs, show (2 : Int).toNat = 2 from rfl, h2, iL1, iI_add, hS.w107 (by omega) (by omega), obs, show (2 : Int).toNat = 2 from rfl, hS.r107 (by omega) (by omega), obs, show (2 : Int).toNat = 2 from rfl, mI_s, iI_sub, show (j : Int) + 1 - 1 = (j : Int) by omega]
    cases F_Mo_tell n E S (B + 105) (iI (j : Int)) (setI M (B + 107) 2 (iI ((j : Int) + 1))) with
    | none => rfl
    | some q => rfl
  | succ r ih =>
    intro k fuel M hk hf h23 h2
    obtain ⟨fuel, rfl⟩ : ∃ f', fuel = f' + 1 := ⟨fuel - 1, by omega⟩
    obtain ⟨M', e, g1, g3, g2⟩ := ih (k + 1) fuel (setI (setI M (B + 107) (x + 98 + 2 * k) (mI M (B + 116) k)) (B + 107) (x + 98 + 2 * k + 1) (mI M (B + 117) k)) (by omega) (by omega) (by rw [mI_a (by omega), mI_a (by omega)]; exact h23) (by rw [mI_i (by omega), mI_i (by omega)]; exact h2)
    refine ⟨M', ?_, fun i i1 i2 => ?_, g3, ((zAg.rfl'.setI ⟨rfl, by omega⟩).setI ⟨rfl, by omega⟩).trans (g2.mono (fun b j q => by omega))⟩
    · rw [← e]
      show F_Mo_law_L145 n E S (zfix (fun r145 s => F_Mo_law_L145 n E S r145 s.1 s.2.1 s.2.2.1 s.2.2.2) fuel) (B + 105) (iI (x : Int)) (iI (k : Int)) M = _
      generalize zfix (fun r145 s => F_Mo_law_L145 n E S r145 s.1 s.2.1 s.2.2.1 s.2.2.2) fuel = rec
      unfold F_Mo_law_L145
      rw [hS.i105, obs, h23, if_neg (cleF (by omega) (by omega) (by omega)), hS.g105_3, obs, hS.g105_24, obs, hS.r116 (by omega) (by omega), obs, Int.toNat_natCast, show (2 : Int32) = iI 2 by decide, show (98 : Int32) = iI 98 by decide, iI_add, iI_mul, iI_add, hS.w107 (by omega) (by omega), obs, hS.g105_25, obs, hS.r117 (by omega) (by omega), obs, Int.toNat_natCast, mI_a (by omega), iL1, iI_add, hS.w107 (by omega) (by omega), obs, iI_add, show ((x : Int) + 98 + 2 * (k : Int)).toNat = x + 98 + 2 * k by omega, show ((x : Int) + 98 + 2 * (k : Int) + 1).toNat = x + 98 + 2 * k + 1 by omega]
      rfl
    · by_cases q : i = k
      · rw [q, (g2 _ _ (by omega)).1, (g2 _ _ (by omega)).1, mI_i (by omega), mI_s, mI_s]
        exact ⟨rfl, rfl⟩
      · have := g1 i (by omega) i2
        rw [mI_a (by omega), mI_a (by omega), mI_a (by omega), mI_a (by omega)] at this
        exact this
end
