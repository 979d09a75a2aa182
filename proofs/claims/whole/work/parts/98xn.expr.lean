/-! law and orders: the model's whole expressions -/
/-- the model between expressions -/
def MK (M : zH) (B : Nat) (ord : Bool) (tb : Nat → Int) (l s : Nat) (mo ma : Nat → Int) (nc lf : Nat) : Prop := LM M B tb l s ∧ (mI M (B + 105) 23 = iI (nc : Int) ∧ nc ≤ 400 ∧ ∀ k, k < nc → mI M (B + 116) k = iI (mo k) ∧ mI M (B + 117) k = iI (ma k)) ∧ (mI M (B + 105) 26 = iI (lf : Int) ∧ lf ≤ 50) ∧ mI M (B + 105) 19 = iI 0 ∧ mI M (B + 105) 20 = bI ord ∧ (∀ i, i < 9 → mJ M (B + 120) i = jJ (cW i)) ∧ ∀ i, i < 7 → mJ M (B + 121) i = jJ (cO i)
/-- it is bad, at s -/
def MBd (M : zH) (B : Nat) (s : Nat) : Prop := mI M (B + 105) 19 = iI 1 ∧ mI M (B + 105) 18 = iI (s : Int)
theorem spl (L : Int) : ∀ Pl : List (Int × Int), ∃ Q P, Pl = Q ++ P ∧ (∀ x ∈ Q, L ≤ bnd x.1) ∧ (P = [] ∨ ∃ y t, P = y :: t ∧ bnd y.1 < L) := by
  intro Pl
  induction Pl with
  | nil => exact ⟨[], [], rfl, fun x hx => absurd hx List.not_mem_nil, Or.inl rfl⟩
  | cons x t ih =>
    by_cases c : L ≤ bnd x.1
    · obtain ⟨Q, P, e, h1, h2⟩ := ih
      refine ⟨x :: Q, P, by rw [e]; rfl, fun y hy => ?_, h2⟩
      rcases List.mem_cons.mp hy with q | q
      · rw [q]; exact c
      · exact h1 y q
    · exact ⟨[], x :: t, rfl, fun x hx => absurd hx List.not_mem_nil, Or.inr ⟨x, t, rfl, by omega⟩⟩
section
variable {n : Nat} {E : zE} {S S0 : zS} {M M' MM : zH} {B : Nat} {ord : Bool} {tb : Nat → Int} {l s s' dp : Nat} {mo ma : Nat → Int} {nc pt pt' : Nat} {tt t0 te L : Int} {f : (Nat → Int) → Option Int}
theorem MK.ag {X : Nat → Nat → Prop} {lf : Nat} (h : MK M B ord tb l s mo ma nc lf) (hA : zAg X M M') (h1 : ∀ j, (13 ≤ j ∧ j ≤ 17) ∨ j = 19 ∨ j = 20 ∨ j = 23 ∨ j = 26 → ¬ X (B + 105) j) (h2 : ∀ b j, b = B + 114 ∨ b = B + 116 ∨ b = B + 117 ∨ b = B + 120 ∨ b = B + 121 → ¬ X b j) : MK M' B ord tb l s mo ma nc lf := by
  obtain ⟨a1, ⟨b1, b2, b3⟩, ⟨c1, c2⟩, d1, e1, f1, f2⟩ := h
  refine ⟨a1.ag hA (fun j q1 q2 => h1 j (by omega)) (fun j => h2 _ j (by omega)), ⟨by rw [(hA _ _ (h1 23 (by omega))).1]; exact b1, b2, fun k hk => ?_⟩, ⟨by rw [(hA _ _ (h1 26 (by omega))).1]; exact c1, c2⟩, by rw [(hA _ _ (h1 19 (by omega))).1]; exact d1, by rw [(hA _ _ (h1 20 (by omega))).1]; exact e1, fun i hi => by rw [(hA _ _ (h2 (B + 120) i (by omega))).2.1]; exact f1 i hi, fun i hi => by rw [(hA _ _ (h2 (B + 121) i (by omega))).2.1]; exact f2 i hi⟩
  rw [(hA _ _ (h2 (B + 116) k (by omega))).1, (hA _ _ (h2 (B + 117) k (by omega))).1]
  exact b3 k hk
theorem MH.mk {Pl : List (Int × Int)} {lf op : Nat} (h : MH M B ord tb l s Pl mo ma nc lf op) : MK M B ord tb l s mo ma nc lf := ⟨h.1.1, h.1.2.1.2.1, h.1.2.1.2.2.1, h.1.2.2, h.2.1, h.2.2.1, h.2.2.2⟩
/-- the start of an expression -/
def ex0 (M : zH) (B : Nat) : zH := setI (setI M (B + 105) 29 (iI 0)) (B + 105) 30 (iI 0)
theorem ex0_A : zAg (psX B) M (ex0 M B) := (zAg.rfl'.setI (by unfold psX; omega)).setI (by unfold psX; omega)
theorem MK.st0 {lf : Nat} (h : MK M B ord tb l s mo ma nc lf) : MH (ex0 M B) B ord tb l s [] mo ma nc lf 0 := by
  have h' := h.ag (X := fun b j => b = B + 105 ∧ 29 ≤ j) (M' := ex0 M B) ((zAg.rfl'.setI ⟨rfl, by omega⟩).setI ⟨rfl, by omega⟩) (fun j q => by omega) (fun b j q => by omega)
  obtain ⟨a1, b1, c1, d1, e1, f1, f2⟩ := h'
  exact ⟨⟨a1, ⟨⟨by unfold ex0; rw [mI_i (by decide), mI_s]; rfl, by show 0 ≤ 400; omega, trivial⟩, b1, c1, ⟨by unfold ex0; rw [mI_s]; rfl, by omega⟩⟩, d1⟩, e1, f1, f2⟩
theorem ex_eq (hS : ShOK S B) (ht : (tt = 0 ∧ t0 = 1) ∨ (tt = 1 ∧ t0 = 0)) : F_Mo_readExpression n E S (B + 105) (iI tt) M = zfix (fun r20 s => F_Mo_readExpression_L20 n E S r20 s.1 s.2.1 s.2.2.1 s.2.2.2) n (B + 105, iI tt, iI t0, ex0 M B) := by
  unfold F_Mo_readExpression F_Mo_readExpression_b19 F_Mo_readExpression_b20
  rw [iL0, hS.p105, obs, hS.p105, obs]
  rcases ht with ⟨q1, q2⟩ | ⟨q1, q2⟩
  · rw [q1, q2, if_pos rfl]; rfl
  · rw [q1, q2, if_neg (show ¬ iI 1 = iI 0 by decide)]; rfl
/-- where it is over -/
theorem ex_end (hS : ShOK S B) (hn : 1000 ≤ n) (hh : s ≤ 400) {Q : List (Int × Int)} {mo' ma' : Nat → Int} {nc' lf op fuel : Nat} (hf : 0 < fuel) (h : MH M B ord tb l s (Q ++ []) mo' ma' nc' lf op) (hQ : ∀ x ∈ Q, 1 ≤ bnd x.1) (hc : nc' + Q.length ≤ 400) : ∃ M', zfix (fun r20 s => F_Mo_readExpression_L20 n E S r20 s.1 s.2.1 s.2.2.1 s.2.2.2) fuel (B + 105, iI tt, iI 4, M) = some M' ∧ MK M' B ord tb l s (flu Q (mo', ma', nc')).1 (flu Q (mo', ma', nc')).2.1 (flu Q (mo', ma', nc')).2.2 lf ∧ zAg (psX B) M M' := by
  obtain ⟨fuel, rfl⟩ : ∃ f', fuel = f' + 1 := ⟨fuel - 1, by omega⟩
  obtain ⟨M1, e1, h1, hA1⟩ := m_set (n := n) (E := E) hS hn (least := 1) (by omega) (P := []) (Q := Q) (Or.inl rfl) h.1 hQ hc
  refine ⟨M1, ?_, (h.to h1 hA1).mk, hA1⟩
  show F_Mo_readExpression_L20 n E S _ (B + 105) (iI tt) (iI 4) M = _
  generalize zfix (fun r20 s => F_Mo_readExpression_L20 n E S r20 s.1 s.2.1 s.2.2.1 s.2.2.2) fuel = rec
  unfold F_Mo_readExpression_L20 F_Mo_readExpression_b76
  rw [hS.i105, obs, h.1.2.2, iL0, if_pos rfl, if_pos (show iI 4 = 4 by decide), hS.ck105, obs, iL1, e1, obs]
theorem xs_ok (hS : ShOK S B) (hn : 1000 ≤ n) (hl : l ≤ 400) (om : OkM n E S0 B ord tb l 5 0 1 3 0 s pt s' pt' f) (ec : opS tb l s' = -1) (hs' : s' ≤ l) (hK : MK MM B ord tb l s mo ma nc pt) (hnc : nc ≤ s) : ∃ MM' mo' ma' nc', F_Mo_readExpression n E S (B + 105) (iI 0) MM = some MM' ∧ MK MM' B ord tb l s' mo' ma' nc' pt' ∧ zAg (psX B) MM MM' ∧ nc' + s ≤ nc + s' ∧ cdOK ord mo ma nc (mo', ma', nc') (pt' - pt) f := by
  obtain ⟨k, MM1, Q, mo1, ma1, nc1, r1, kk, h1, z1, q1, b1, cd⟩ := om S hS (ex0 MM B) [] mo ma nc ⟨hK.st0, Or.inl rfl, fun q => by omega, by show nc + 0 ≤ s; omega⟩
  have hi : inn (Q ++ []) = -1 := by rw [inn_app Q (fun x hx => by have := q1 x hx; omega)]; rfl
  have r2 := r1.trans (rc_3 hS h1.1.2.2 (m_bsOver hS hn ec h1.1 hi))
  obtain ⟨MM2, e2, h2, z2⟩ := ex_end (n := n) (E := E) (tt := 0) (fuel := n - (k + 1)) hS hn (by omega) (by omega) h1 (fun x hx => by have := q1 x hx; omega) (by omega)
  have fl := flu_len Q (mo1, ma1, nc1)
  dsimp only at fl
  refine ⟨MM2, _, _, _, ?_, h2, (ex0_A.trans z1).trans z2, by omega, cd⟩
  have r3 := r2 (n - (k + 1))
  rw [show n - (k + 1) + (k + 1) = n by omega] at r3
  rw [ex_eq hS (Or.inl ⟨rfl, rfl⟩), r3]
  exact e2
theorem xt_ok (hS : ShOK S B) (hn : 1000 ≤ n) (hl : l ≤ 400) (om : OkM n E S0 B ord tb l 1 1 0 2 0 s pt s' pt' f) (ha : wis tb l s' 1476 = false) (ho : wis tb l s' 498 = false) (hs' : s' ≤ l) (hK : MK MM B ord tb l s mo ma nc pt) (hnc : nc ≤ s) : ∃ MM' mo' ma' nc', F_Mo_readExpression n E S (B + 105) (iI 1) MM = some MM' ∧ MK MM' B ord tb l s' mo' ma' nc' pt' ∧ zAg (psX B) MM MM' ∧ nc' + s ≤ nc + s' ∧ cdOK ord mo ma nc (mo', ma', nc') (pt' - pt) f := by
  obtain ⟨k, MM1, Q, mo1, ma1, nc1, r1, kk, h1, z1, q1, b1, cd⟩ := om S hS (ex0 MM B) [] mo ma nc ⟨hK.st0, Or.inl rfl, fun q => by show (-1 : Int) ≠ 32; decide, by show nc + 0 ≤ s; omega⟩
  have hi : inn (Q ++ []) = -1 := by rw [inn_app Q (fun x hx => by have := q1 x hx; omega)]; rfl
  have r2 := r1.trans (rc_2 hS h1.1.2.2 (m_btOver hS hn h1.1 ha ho hi))
  obtain ⟨MM2, e2, h2, z2⟩ := ex_end (n := n) (E := E) (tt := 1) (fuel := n - (k + 1)) hS hn (by omega) (by omega) h1 (fun x hx => by have := q1 x hx; omega) (by omega)
  have fl := flu_len Q (mo1, ma1, nc1)
  dsimp only at fl
  refine ⟨MM2, _, _, _, ?_, h2, (ex0_A.trans z1).trans z2, by omega, cd⟩
  have r3 := r2 (n - (k + 1))
  rw [show n - (k + 1) + (k + 1) = n by omega] at r3
  rw [ex_eq hS (Or.inr ⟨rfl, rfl⟩), r3]
  exact e2
theorem x_bad (hS : ShOK S B) (hn : 1000 ≤ n) (hl : l ≤ 400) (ht : (tt = 0 ∧ t0 = 1) ∨ (tt = 1 ∧ t0 = 0)) (b : BadP n E S0 B ord tb l L tt t0 te 0 s pt s') (hK : MK MM B ord tb l s mo ma nc pt) (hnc : nc ≤ s) : ∃ MM', F_Mo_readExpression n E S (B + 105) (iI tt) MM = some MM' ∧ MBd MM' B s' ∧ zAg (psB B) MM MM' := by
  obtain ⟨k, t', MM1, r1, kk, ⟨x1, x2, Pl, mo1, ma1, nc1, lf1, op1, x3, x4⟩, z1⟩ := b.2.2 S hS (ex0 MM B) [] mo ma nc ⟨hK.st0, Or.inl rfl, fun q => by show (-1 : Int) ≠ 32; decide, by show nc + 0 ≤ s; omega⟩
  have hsl := b.2.1
  obtain ⟨Q, P, eP, hQ, hP⟩ := spl 1 Pl
  rw [eP] at x3 x4
  rw [List.length_append] at x4
  obtain ⟨MM2, e2, h2, z2⟩ := m_settle (n := n) (E := E) hS (least := 1) (by omega) hP Q MM1 mo1 ma1 nc1 n x3 hQ (by omega) (by omega)
  refine ⟨MM2, ?_, ⟨by rw [(z2 _ _ (by unfold pmX; omega)).1]; exact x1, by rw [(z2 _ _ (by unfold pmX; omega)).1]; exact x2⟩, ((toB ex0_A).trans z1).trans (toB (psX_pm z2))⟩
  obtain ⟨fuel, hf⟩ : ∃ fuel, n - k = fuel + 1 := ⟨n - k - 1, by omega⟩
  have r3 := r1 (n - k)
  rw [show n - k + k = n by omega] at r3
  rw [ex_eq hS ht, r3, hf]
  show F_Mo_readExpression_L20 n E S _ (B + 105) (iI tt) (iI t') MM1 = _
  generalize zfix (fun r20 s => F_Mo_readExpression_L20 n E S r20 s.1 s.2.1 s.2.2.1 s.2.2.2) fuel = rec
  have e3 : F_Mo_settle n E S (B + 105) (iI 1) MM1 = some MM2 := e2
  unfold F_Mo_readExpression_L20 F_Mo_readExpression_b76
  rw [hS.i105, obs, x1, iL0, if_neg (show ¬ iI 1 = iI 0 by decide), hS.ck105, obs, iL1, e3, obs]
end
