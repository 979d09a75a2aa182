/-! CASES (5): turn, bucket, wanted, terms, seen, forget, force -/
section
variable {n : Nat} {E : zE} {S : zS} {M : zH} {B : Nat} {N : Nt} {Ls : Nat → Lw}
theorem c_turn (h : Inv S M B) {x y : Int} (hx : zR x) (hy : zR y) : Ag1 S B M (fun M => F_NC_turn n E S (B + 0) (iI x) (iI y) M) (fun M => F_Mo_turn n E S (B + 105) (iI x) (iI y) M) := by
  obtain ⟨hS, hZ, ⟨N, Ls, hC, hM, hh, hP⟩, _⟩ := id h
  have hI := nA1.ni hS
  have hN := hC.2.1
  by_cases c : (0 ≤ x ∧ x ≤ 3) ∧ (0 ≤ y ∧ y ≤ 7)
  · have ht := hN.turn (k := x.toNat) (by omega)
    have R1 := (hC.1.set 2 (by decide) x.toNat y)
    have hR2 := (hM.2.1.s_turn (k := x.toNat) (by omega) y)
    refine Ag1.ch h hC hM hP (N' := nset N 2 x.toNat y) (r := iI (N 2 x.toNat)) (M1 := setI (setI (setI M (B + 1 + 1 + 2) x.toNat (iI y)) (B + 63) 1 (iI 0)) (B + 0) 15 (iI 0)) (M2 := setI (setI (setI (setI (setI (setI (setI M (B + 1 + 1 + 2) x.toNat (iI y)) (B + 63) 1 (iI 0)) (B + 0) 15 (iI 0)) (B + 105) 0 (iI 0)) (B + 105) 8 (iI 0)) (B + 107) (8 + x).toNat (iI y)) (B + 105) 1 (iI 0)) ?_ ?_ ?_ ?_ ?_ ?_ ?_ ?_ ?_ (hN.s2 c.2.1 (by omega)) hh rfl ?_
    · show F_NC_turn n E S (B + 0) (iI x) (iI y) M = _
      unfold F_NC_turn
      rw [s_isRing hx, obs, if_pos (decide_eq_true c.1), iL0, show (7 : Int32) = iI 7 by decide, s_withinI hy (zR_of (by omega) (by omega)) (zR_of (by omega) (by omega)), obs, if_pos (decide_eq_true c.2), hS.g0_0, obs, hI.g2, obs, hI.r2 hC.1 (by omega) (by omega), obs, hI.w2 (by omega) (by omega), obs, hS.g0_5, obs, hS.ck63, obs, s_clear hS, obs, s_accept hS, obs]
    · refine ((zAg.rfl'.setI ?_).setI ?_).setI ?_ <;> (unfold cXw; omega)
    · refine (R1.ag (X := fun b j => (b = B + 0 ∧ j = 15) ∨ (b = B + 63 ∧ j = 1)) ((zAg.rfl'.setI ?_).setI ?_) (fun b j q1 q2 q => by omega)) <;> omega
    · intro j; rfl
    · show F_Mo_turn n E S (B + 105) (iI x) (iI y) _ = _
      unfold F_Mo_turn
      rw [iL0, hS.p105, obs, s_mRing hx, obs, if_pos (decide_eq_true c.1), s_mField hy, obs, if_pos (decide_eq_true c.2), hS.p105, obs, hS.ck105, obs, show (8 : Int32) = iI 8 by decide, iI_add, s_change hS (by omega) (by omega), obs]
      congr 2
      rw [mI_a (by omega), mI_a (by omega), mI_a (by omega), mI_a (by omega), mI_a (by omega), hM.2.1.turn (by omega) (by omega)]
    · refine (((zAg.rfl'.setI ?_).setI ?_).setI ?_).setI ?_ <;> (unfold mXw; omega)
    · rw [show (8 + x).toNat = 8 + x.toNat by omega]
      refine hR2.cg (fun i _ => ?_)
      simp [mI_ite]
    · intro i hi
      rw [mI_a (by omega), mI_i (by omega), mI_a (by omega), mI_a (by omega)]
    · rw [mI_s, mI_s]
    · left
      refine ⟨?_, ?_⟩
      · rw [mI_a (by omega), mI_s]
      · rw [mI_i (by omega), mI_a (by omega), mI_s]
  · refine Ag1.rf (n := n) (E := E) h (code := -1) (Or.inl rfl) ?_ (fun M1 hA => ?_)
    · show F_NC_turn n E S (B + 0) (iI x) (iI y) M = _
      unfold F_NC_turn F_NC_turn_b17
      rw [s_isRing hx, obs]
      by_cases c1 : 0 ≤ x ∧ x ≤ 3
      · rw [if_pos (decide_eq_true c1), iL0, show (7 : Int32) = iI 7 by decide, s_withinI hy (zR_of (by omega) (by omega)) (zR_of (by omega) (by omega)), obs, if_neg (fun q => c ⟨c1, of_decide_eq_true q⟩), hS.ck0, obs, be_]; rfl
      · rw [if_neg (fun q => c1 (of_decide_eq_true q)), hS.ck0, obs, be_]; rfl
    · show F_Mo_turn n E S (B + 105) (iI x) (iI y) M1 = _
      unfold F_Mo_turn F_Mo_turn_b19
      rw [iL0, hS.p105, obs, s_mRing hx, obs]
      by_cases c1 : 0 ≤ x ∧ x ≤ 3
      · rw [if_pos (decide_eq_true c1), s_mField hy, obs, if_neg (fun q => c ⟨c1, of_decide_eq_true q⟩), hS.ck105, obs, be_]; rfl
      · rw [if_neg (fun q => c1 (of_decide_eq_true q)), hS.ck105, obs, be_]; rfl
theorem c_wanted (h : Inv S M B) {x y : Int} (hx : zR x) (hy : zR y) : Ag1 S B M (fun M => F_NC_wanted n E S (B + 0) (iI x) (iI y) M) (fun M => F_Mo_wanted n E S (B + 105) (iI x) (iI y) M) := by
  obtain ⟨hS, hZ, ⟨N, Ls, hC, hM, hh, hP⟩, _⟩ := id h
  have hI := nA1.ni hS
  have hN := hC.2.1
  have hy1 := hy.1
  have hy2 := hy.2
  have w400 : ∀ M, F_Mo_in n E S (iI y).toInt64 (-1) 400 M = some (decide (-1 ≤ y ∧ y ≤ 400), M) := fun M => by
    rw [xJ hy1 hy2, show (-1 : Int64) = jJ (-1) by decide, show (400 : Int64) = jJ 400 by decide, s_in (by omega) (by omega) (by omega) (by omega) (by omega) (by omega)]
  by_cases c : (0 ≤ x ∧ x ≤ 7) ∧ (-1 ≤ y ∧ y ≤ 400)
  · have ht := hN.want (k := x.toNat) (by omega)
    have R1 := (hC.1.set 6 (by decide) x.toNat y)
    have hR2 := (hM.2.1.s_want (k := x.toNat) (by omega) y)
    refine Ag1.ch h hC hM hP (N' := nset N 6 x.toNat y) (r := iI (N 6 x.toNat)) (M1 := setI (setI M (B + 1 + 1 + 6) x.toNat (iI y)) (B + 0) 15 (iI 0)) (M2 := setI (setI (setI (setI (setI M (B + 1 + 1 + 6) x.toNat (iI y)) (B + 0) 15 (iI 0)) (B + 105) 0 (iI 0)) (B + 107) (57 + x).toNat (iI y)) (B + 105) 1 (iI 0)) ?_ ?_ ?_ ?_ ?_ ?_ ?_ ?_ ?_ (hN.s6 c.2.1 c.2.2) hh rfl ?_
    · show F_NC_wanted n E S (B + 0) (iI x) (iI y) M = _
      unfold F_NC_wanted
      rw [s_isField hx, obs, if_pos (decide_eq_true c.1), iLm1, show (400 : Int32) = iI 400 by decide, s_withinI hy (zR_of (by omega) (by omega)) (zR_of (by omega) (by omega)), obs, if_pos (decide_eq_true c.2), hS.g0_0, obs, hI.g6, obs, hI.r6 hC.1 (by omega) (by omega), obs, hI.w6 (by omega) (by omega), obs, s_accept hS, obs]
    · refine (zAg.rfl'.setI ?_).setI ?_ <;> (unfold cXw; omega)
    · refine (R1.ag (X := fun b j => (b = B + 0 ∧ j = 15)) (zAg.rfl'.setI ?_) (fun b j q1 q2 q => by omega)) <;> omega
    · intro j; rfl
    · show F_Mo_wanted n E S (B + 105) (iI x) (iI y) _ = _
      unfold F_Mo_wanted
      rw [iL0, hS.p105, obs, s_mField hx, obs, if_pos (decide_eq_true c.1), w400, obs, if_pos (decide_eq_true c.2), hS.ck105, obs, show (57 : Int32) = iI 57 by decide, iI_add, s_change hS (by omega) (by omega), obs]
      congr 2
      rw [mI_a (by omega), mI_a (by omega), mI_a (by omega), hM.2.1.want (by omega) (by omega)]
    · refine ((zAg.rfl'.setI ?_).setI ?_).setI ?_ <;> (unfold mXw; omega)
    · rw [show (57 + x).toNat = 57 + x.toNat by omega]
      refine hR2.cg (fun i _ => ?_)
      simp [mI_ite]
    · intro i hi
      rw [mI_a (by omega), mI_i (by omega), mI_a (by omega)]
    · rw [mI_s, mI_s]
    · right
      refine ⟨?_, ?_, snEq.rfl'⟩
      · rw [mI_a (by omega), mI_a (by omega)]
      · rw [mI_i (by omega), mI_a (by omega), mI_i (by omega)]
  · refine Ag1.rf (n := n) (E := E) h (code := -1) (Or.inl rfl) ?_ (fun M1 hA => ?_)
    · show F_NC_wanted n E S (B + 0) (iI x) (iI y) M = _
      unfold F_NC_wanted F_NC_wanted_b18
      rw [s_isField hx, obs]
      by_cases c1 : 0 ≤ x ∧ x ≤ 7
      · rw [if_pos (decide_eq_true c1), iLm1, show (400 : Int32) = iI 400 by decide, s_withinI hy (zR_of (by omega) (by omega)) (zR_of (by omega) (by omega)), obs, if_neg (fun q => c ⟨c1, of_decide_eq_true q⟩), hS.ck0, obs, be_]
      · rw [if_neg (fun q => c1 (of_decide_eq_true q)), hS.ck0, obs, be_]; rfl
    · show F_Mo_wanted n E S (B + 105) (iI x) (iI y) M1 = _
      unfold F_Mo_wanted F_Mo_wanted_b38
      rw [iL0, hS.p105, obs, s_mField hx, obs]
      by_cases c1 : 0 ≤ x ∧ x ≤ 7
      · rw [if_pos (decide_eq_true c1), w400, obs, if_neg (fun q => c ⟨c1, of_decide_eq_true q⟩), hS.ck105, obs, be_]; rfl
      · rw [if_neg (fun q => c1 (of_decide_eq_true q)), hS.ck105, obs, be_]; rfl
def mxT (x : Int) : Int := if x = 0 then 999 else if x = 3 then 10 else 9
theorem zsta0 {x : Int} (h0 : 0 ≤ x) (h3 : x ≤ 3) : zsta 0 (iI x) = some (iI (mxT x)) := by
  rcases (show x = 0 ∨ x = 1 ∨ x = 2 ∨ x = 3 by omega) with rfl | rfl | rfl | rfl <;> decide
theorem s_isTerm {x y : Int} (hx : zR x) (hy : zR y) : F_Mo_isTerm n E S (iI x) (iI y) M = some (decide ((0 ≤ x ∧ x ≤ 3) ∧ (0 ≤ y ∧ y ≤ mxT x)), M) := by
  have hy1 := hy.1
  have hy2 := hy.2
  have hx1 := hx.1
  have hx2 := hx.2
  have w : ∀ (k : Int), 0 ≤ k → k ≤ 999 → F_Mo_in n E S (iI y).toInt64 0 (jJ k) M = some (decide (0 ≤ y ∧ y ≤ k), M) := fun k h1 h2 => by
    rw [xJ hy1 hy2, jL0, s_in (by omega) (by omega) (by omega) (by omega) (by omega) (by omega)]
  unfold F_Mo_isTerm mxT
  simp (disch := omega) only [iL0, iL1, iL2, iL3, xeq, show (999 : Int64) = jJ 999 by decide, show (9 : Int64) = jJ 9 by decide, show (10 : Int64) = jJ 10 by decide]
  rw [w 999 (by decide) (by decide), w 9 (by decide) (by decide), w 10 (by decide) (by decide)]
  simp only [obs]
  by_cases c0 : x = 0
  · subst c0; simp
  rw [if_neg c0]
  by_cases c1 : x = 1
  · subst c1; simp
  rw [if_neg c1]
  by_cases c2 : x = 2
  · subst c2; simp
  rw [if_neg c2]
  by_cases c3 : x = 3
  · subst c3; simp
  rw [if_neg c3, decide_eq_false (by omega)]
theorem c_terms (h : Inv S M B) {x y : Int} (hx : zR x) (hy : zR y) : Ag1 S B M (fun M => F_NC_terms n E S (B + 0) (iI x) (iI y) M) (fun M => F_Mo_terms n E S (B + 105) (iI x) (iI y) M) := by
  obtain ⟨hS, hZ, ⟨N, Ls, hC, hM, hh, hP⟩, _⟩ := id h
  have hI := nA1.ni hS
  have hN := hC.2.1
  have hm : 9 ≤ mxT x ∧ mxT x ≤ 999 := by
    unfold mxT
    by_cases c0 : x = 0
    · rw [if_pos c0]; omega
    · rw [if_neg c0]; split <;> omega
  by_cases c : (0 ≤ x ∧ x ≤ 3) ∧ (0 ≤ y ∧ y ≤ mxT x)
  · have R1 := (hC.1.set 9 (by decide) x.toNat y)
    have hR2 := (hM.2.1.s_term (k := x.toNat) (by omega) y)
    have hNN : NdOK (nset N 9 x.toNat y) := by
      refine hN.s9 c.2.1 ?_
      have := c.2.2
      unfold mxT at this
      rcases (show x = 0 ∨ x = 1 ∨ x = 2 ∨ x = 3 by omega) with rfl | rfl | rfl | rfl
      · rw [if_pos rfl] at this; rw [tn0, if_pos rfl]; omega
      · rw [if_neg (by decide), if_neg (by decide)] at this; rw [tn1, if_neg (by decide), if_neg (by decide)]; omega
      · rw [if_neg (by decide), if_neg (by decide)] at this; rw [tn2, if_neg (by decide), if_neg (by decide)]; omega
      · rw [if_neg (by decide), if_pos rfl] at this; rw [tn3, if_neg (by decide), if_pos rfl]; omega
    have hh' : nset N 9 x.toNat y 9 0 ≤ 999 := by
      unfold nset; split
      · have := c.2.2; omega
      · exact hh
    refine Ag1.ch h hC hM hP (N' := nset N 9 x.toNat y) (r := iI (N 9 x.toNat)) (M1 := setI (setI (setI M (B + 1 + 1 + 9) x.toNat (iI y)) (B + 63) 1 (iI 0)) (B + 0) 15 (iI 0)) (M2 := setI (setI (setI (setI (setI (setI (setI M (B + 1 + 1 + 9) x.toNat (iI y)) (B + 63) 1 (iI 0)) (B + 0) 15 (iI 0)) (B + 105) 0 (iI 0)) (B + 105) 8 (iI 0)) (B + 107) (4 + x).toNat (iI y)) (B + 105) 1 (iI 0)) ?_ ?_ ?_ ?_ ?_ ?_ ?_ ?_ ?_ hNN hh' rfl ?_
    · show F_NC_terms n E S (B + 0) (iI x) (iI y) M = _
      unfold F_NC_terms
      rw [iL0, show (3 : Int32) = iI 3 by decide, s_withinI hx (zR_of (by omega) (by omega)) (zR_of (by omega) (by omega)), obs, if_pos (decide_eq_true c.1), zsta0 c.1.1 c.1.2, obs, s_withinI hy (zR_of (by omega) (by omega)) (zR_of (by omega) (by omega)), obs, if_pos (decide_eq_true c.2), hS.g0_0, obs, hI.g9, obs, hI.r9 hC.1 (by omega) (by omega), obs, hI.w9 (by omega) (by omega), obs, hS.g0_5, obs, hS.ck63, obs, s_clear hS, obs, s_accept hS, obs]
    · refine ((zAg.rfl'.setI ?_).setI ?_).setI ?_ <;> (unfold cXw; omega)
    · refine (R1.ag (X := fun b j => (b = B + 0 ∧ j = 15) ∨ (b = B + 63 ∧ j = 1)) ((zAg.rfl'.setI ?_).setI ?_) (fun b j q1 q2 q => by omega)) <;> omega
    · intro j; rfl
    · show F_Mo_terms n E S (B + 105) (iI x) (iI y) _ = _
      unfold F_Mo_terms
      rw [iL0, hS.p105, obs, s_isTerm hx hy, obs, if_pos (decide_eq_true c), hS.p105, obs, hS.ck105, obs, show (4 : Int32) = iI 4 by decide, iI_add, s_change hS (by omega) (by omega), obs]
      congr 2
      rw [mI_a (by omega), mI_a (by omega), mI_a (by omega), mI_a (by omega), mI_a (by omega), hM.2.1.term (by omega) (by omega)]
    · refine (((zAg.rfl'.setI ?_).setI ?_).setI ?_).setI ?_ <;> (unfold mXw; omega)
    · rw [show (4 + x).toNat = 4 + x.toNat by omega]
      refine hR2.cg (fun i _ => ?_)
      simp [mI_ite]
    · intro i hi
      rw [mI_a (by omega), mI_i (by omega), mI_a (by omega), mI_a (by omega)]
    · rw [mI_s, mI_s]
    · left
      refine ⟨?_, ?_⟩
      · rw [mI_a (by omega), mI_s]
      · rw [mI_i (by omega), mI_a (by omega), mI_s]
  · refine Ag1.rf (n := n) (E := E) h (code := -1) (Or.inl rfl) ?_ (fun M1 hA => ?_)
    · show F_NC_terms n E S (B + 0) (iI x) (iI y) M = _
      unfold F_NC_terms F_NC_terms_b22
      rw [iL0, show (3 : Int32) = iI 3 by decide, s_withinI hx (zR_of (by omega) (by omega)) (zR_of (by omega) (by omega)), obs]
      by_cases c1 : 0 ≤ x ∧ x ≤ 3
      · rw [if_pos (decide_eq_true c1), zsta0 c1.1 c1.2, obs, s_withinI hy (zR_of (by omega) (by omega)) (zR_of (by omega) (by omega)), obs, if_neg (fun q => c ⟨c1, of_decide_eq_true q⟩), hS.ck0, obs, be_]; rfl
      · rw [if_neg (fun q => c1 (of_decide_eq_true q)), hS.ck0, obs, be_]; rfl
    · show F_Mo_terms n E S (B + 105) (iI x) (iI y) M1 = _
      unfold F_Mo_terms
      rw [iL0, hS.p105, obs, s_isTerm hx hy, obs, if_neg (fun q => c (of_decide_eq_true q)), hS.ck105, obs, be_]; rfl
theorem c_forget (h : Inv S M B) : Ag1 S B M (fun M => F_NC_forget n E S (B + 0) M) (fun M => F_Mo_forget n E S (B + 105) M) := by
  obtain ⟨hS, hZ, ⟨N, Ls, hC, hM, hh, hP⟩, _, _, _, hMi, _⟩ := id h
  have hI := nA1.ni hS
  have hN := hC.2.1
  have R1 := hC.1.setF 12 (by decide) (by decide) 0
  have hR2 := hM.2.1.s_ns 0
  refine Ag1.ch h hC hM hP (N' := nset N 12 0 0) (r := iI (N 12 0)) (M1 := setI M (B + 1) 12 (iI 0)) (M2 := setI (setI (setI M (B + 1) 12 (iI 0)) (B + 105) 0 (iI 0)) (B + 107) 1 (iI 0)) ?_ ?_ R1 (fun _ => rfl) ?_ ?_ ?_ ?_ ?_ (hN.s12 (by decide) (by decide)) hh rfl ?_
  · show F_NC_forget n E S (B + 0) M = _
    unfold F_NC_forget
    rw [hS.g0_0, obs, hI.i12 hC.1, obs, hI.p12, obs]
    rfl
  · refine zAg.rfl'.setI ?_; unfold cXw; omega
  · show F_Mo_forget n E S (B + 105) _ = _
    unfold F_Mo_forget
    rw [iL0, hS.p105, obs, hS.g105_3, obs, iL1, hS.r107 (by omega) (by omega), obs, hS.w107 (by omega) (by omega), obs, tn1]
    congr 2
    rw [mI_a (by omega), mI_a (by omega), hM.2.1.ns]
  · refine (zAg.rfl'.setI ?_).setI ?_ <;> (unfold mXw; omega)
  · refine hR2.cg (fun i _ => ?_)
    simp [mI_ite]
  · intro i hi
    rw [mI_i (by omega), mI_a (by omega)]
  · rw [mI_a (by omega), mI_a (by omega), mI_i (by omega), mI_a (by omega)]; exact hMi.1.1
  · right
    refine ⟨?_, ?_, snEq.rfl'⟩
    · rw [mI_a (by omega)]
    · rw [mI_a (by omega), mI_i (by omega)]
theorem c_seen (h : Inv S M B) {x y : Int} (hx : zR x) (hy : zR y) : Ag1 S B M (fun M => F_NC_seen n E S (B + 0) (iI x) (iI y) M) (fun M => F_Mo_seen n E S (B + 105) (iI x) (iI y) M) := by
  obtain ⟨hS, hZ, ⟨N, Ls, hC, hM, hh, hP⟩, _⟩ := id h
  have hI := nA1.ni hS
  have hN := hC.2.1
  have hns := hN.ns
  have hy1 := hy.1
  have hy2 := hy.2
  have w400 : ∀ M, F_Mo_in n E S (iI y).toInt64 0 400 M = some (decide (0 ≤ y ∧ y ≤ 400), M) := fun M => by
    rw [xJ hy1 hy2, jL0, show (400 : Int64) = jJ 400 by decide, s_in (by omega) (by omega) (by omega) (by omega) (by omega) (by omega)]
  by_cases c : (0 ≤ x ∧ x ≤ 7) ∧ (0 ≤ y ∧ y ≤ 400)
  · by_cases c6 : N 12 0 < 6
    · have R1 := hC.1.set 7 (by decide) (N 12 0).toNat x
      have R2 := R1.set 8 (by decide) (N 12 0).toNat y
      have R3 := R2.setF 12 (by decide) (by decide) (N 12 0 + 1)
      have e1 : ∀ k v, nset N 7 k v 12 0 = N 12 0 := fun k v => nset_c (by decide)
      have e2 : ∀ N' : Nt, ∀ k v, nset N' 8 k v 12 0 = N' 12 0 := fun N' k v => nset_c (by decide)
      have hR2 := ((hM.2.1.s_sf (k := (N 12 0).toNat) (by omega) x).s_st (k := (N 12 0).toNat) (by omega) y).s_ns (N 12 0 + 1)
      refine Ag1.ch h hC hM hP (N' := nset (nset (nset N 7 (N 12 0).toNat x) 8 (N 12 0).toNat y) 12 0 (N 12 0 + 1)) (r := iI (N 12 0 + 1)) (M1 := setI (setI (setI (setI M (B + 1 + 1 + 7) (N 12 0).toNat (iI x)) (B + 1 + 1 + 8) (N 12 0).toNat (iI y)) (B + 1) 12 (iI (N 12 0 + 1))) (B + 0) 15 (iI 0)) (M2 := setI (setI (setI (setI (setI (setI (setI (setI (setI M (B + 1 + 1 + 7) (N 12 0).toNat (iI x)) (B + 1 + 1 + 8) (N 12 0).toNat (iI y)) (B + 1) 12 (iI (N 12 0 + 1))) (B + 0) 15 (iI 0)) (B + 105) 0 (iI 0)) (B + 107) (65 + 2 * N 12 0).toNat (iI x)) (B + 107) (65 + 2 * N 12 0 + 1).toNat (iI y)) (B + 107) 1 (iI (N 12 0 + 1))) (B + 105) 1 (iI 0)) ?_ ?_ ?_ (fun _ => rfl) ?_ ?_ ?_ ?_ ?_ (((hN.s7 (by omega) (by omega)).s8 (by omega) (by omega)).s12 (by omega) (by omega)) hh rfl ?_
      · show F_NC_seen n E S (B + 0) (iI x) (iI y) M = _
        unfold F_NC_seen F_Ni_addSeen
        rw [s_isField hx, obs, if_pos (decide_eq_true c.1), iL0, show (400 : Int32) = iI 400 by decide, s_withinI hy (zR_of (by omega) (by omega)) (zR_of (by omega) (by omega)), obs, if_pos (decide_eq_true c.2), hS.g0_0, obs, hI.i12 hC.1, obs, iL6, if_pos (by rw [xlt (by omega) (by omega) (by omega) (by omega)]; exact c6)]
        simp only [obs]
        rw [if_pos (by rw [xlt (by omega) (by omega) (by omega) (by omega)]; exact c6)]
        simp (disch := omega) only [hI.g7, hI.g8, obs, hI.w7, hI.w8, hI.i12 R1, hI.i12 R2, hI.p12, hI.i12 R3, e1, e2, iL1, iI_add, nset_s, s_accept hS]
      · refine (((zAg.rfl'.setI ?_).setI ?_).setI ?_).setI ?_ <;> (unfold cXw; omega)
      · refine (R3.ag (X := fun b j => (b = B + 0 ∧ j = 15)) (zAg.rfl'.setI ?_) (fun b j q1 q2 q => by omega)) <;> omega
      · show F_Mo_seen n E S (B + 105) (iI x) (iI y) _ = _
        unfold F_Mo_seen
        rw [iL0, hS.p105, obs, s_mField hx, obs, if_pos (decide_eq_true c.1)]
        rw [show (iI 0 : Int32) = 0 from rfl, w400, obs, if_pos (decide_eq_true c.2), hS.g105_3, obs, iL1, hS.r107 (by omega) (by omega), obs, tn1, mI_a (by omega), mI_a (by omega), mI_a (by omega), mI_a (by omega), mI_a (by omega), hM.2.1.ns, iL6, if_neg (by rw [xeq (by omega) (by omega) (by omega) (by omega)]; omega), show (65 : Int32) = iI 65 by decide, iL2, iI_mul, iI_add, hS.w107 (by omega) (by omega), obs, iI_add, hS.w107 (by omega) (by omega), obs, hS.r107 (by omega) (by omega), obs, tn1, mI_i (by omega), mI_i (by omega), mI_a (by omega), mI_a (by omega), mI_a (by omega), mI_a (by omega), mI_a (by omega), hM.2.1.ns, iI_add, hS.w107 (by omega) (by omega), obs, tn1, s_tellP hS (by omega) (by omega), obs]
        rfl
      · refine ((((zAg.rfl'.setI ?_).setI ?_).setI ?_).setI ?_).setI ?_ <;> (unfold mXw; omega)
      · rw [show (65 + 2 * N 12 0).toNat = 65 + 2 * (N 12 0).toNat by omega, show (65 + 2 * N 12 0 + 1).toNat = 65 + 2 * (N 12 0).toNat + 1 by omega]
        refine hR2.cg (fun i _ => ?_)
        simp [mI_ite]
      · intro i hi
        rw [mI_a (by omega), mI_i (by omega), mI_i (by omega), mI_i (by omega), mI_a (by omega)]
      · rw [mI_s, mI_s]
      · right
        refine ⟨?_, ?_, snEq.rfl'⟩
        · rw [mI_a (by omega), mI_a (by omega), mI_a (by omega), mI_a (by omega)]
        · rw [mI_i (by omega), mI_a (by omega), mI_a (by omega), mI_a (by omega), mI_i (by omega)]
    · refine Ag1.rf (n := n) (E := E) h (code := -5) (Or.inr (Or.inr (Or.inr (Or.inl rfl)))) ?_ (fun M1 hA => ?_)
      · show F_NC_seen n E S (B + 0) (iI x) (iI y) M = _
        unfold F_NC_seen
        rw [s_isField hx, obs, if_pos (decide_eq_true c.1), iL0, show (400 : Int32) = iI 400 by decide, s_withinI hy (zR_of (by omega) (by omega)) (zR_of (by omega) (by omega)), obs, if_pos (decide_eq_true c.2), hS.g0_0, obs, hI.i12 hC.1, obs, iL6, if_neg (by rw [xlt (by omega) (by omega) (by omega) (by omega)]; exact c6), be_]
        rfl
      · have hM1 := hM.rf hA
        show F_Mo_seen n E S (B + 105) (iI x) (iI y) M1 = _
        unfold F_Mo_seen
        rw [iL0, hS.p105, obs, s_mField hx, obs, if_pos (decide_eq_true c.1)]
        rw [show (iI 0 : Int32) = 0 from rfl, w400, obs, if_pos (decide_eq_true c.2), hS.g105_3, obs, iL1, hS.r107 (by omega) (by omega), obs, tn1]
        rw [show (0 : Int32) = iI 0 from rfl, hM1.2.1.ns, iL6, if_pos (by rw [xeq (by omega) (by omega) (by omega) (by omega)]; omega), be_]
        rfl
  · refine Ag1.rf (n := n) (E := E) h (code := -1) (Or.inl rfl) ?_ (fun M1 hA => ?_)
    · show F_NC_seen n E S (B + 0) (iI x) (iI y) M = _
      unfold F_NC_seen F_NC_seen_b18
      rw [s_isField hx, obs]
      by_cases c1 : 0 ≤ x ∧ x ≤ 7
      · rw [if_pos (decide_eq_true c1), iL0, show (400 : Int32) = iI 400 by decide, s_withinI hy (zR_of (by omega) (by omega)) (zR_of (by omega) (by omega)), obs, if_neg (fun q => c ⟨c1, of_decide_eq_true q⟩), hS.ck0, obs, be_]; rfl
      · rw [if_neg (fun q => c1 (of_decide_eq_true q)), hS.ck0, obs, be_]; rfl
    · show F_Mo_seen n E S (B + 105) (iI x) (iI y) M1 = _
      unfold F_Mo_seen F_Mo_seen_b24
      rw [hS.p105, obs, s_mField hx, obs]
      by_cases c1 : 0 ≤ x ∧ x ≤ 7
      · rw [if_pos (decide_eq_true c1), w400, obs, if_neg (fun q => c ⟨c1, of_decide_eq_true q⟩), hS.ck105, obs, be_]; rfl
      · rw [if_neg (fun q => c1 (of_decide_eq_true q)), hS.ck105, obs, be_]; rfl
end
