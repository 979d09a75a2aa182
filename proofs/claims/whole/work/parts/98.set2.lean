/-! CASES (6): force, bucket -/
theorem m1p {M : zH} : ((iI (-1), M) : Int32 × zH).fst = -1 := rfl
theorem q00 : iI 0 = (0 : Int32) := rfl
theorem q11 : iI 1 = (1 : Int32) := rfl
theorem q22 : iI 2 = (2 : Int32) := rfl
theorem q33 : iI 3 = (3 : Int32) := rfl
section
variable {n : Nat} {E : zE} {S : zS} {M : zH} {B : Nat} {N : Nt} {Ls : Nat → Lw}
theorem s_mLaw (hS : ShOK S B) (hR : RwN (mI M (B + 107)) N) (hN : NdOK N) {x : Int} (hx : zR x) : F_Mo_isLaw n E S (B + 105) (iI x) M = some (decide (-1 ≤ x ∧ x < N 13 0), M) := by
  have hl := hN.nl
  have hx1 := hx.1
  have hx2 := hx.2
  unfold F_Mo_isLaw F_Mo_isLaw_b23
  rw [iLm1]
  simp (disch := omega) only [xeq]
  by_cases c : x = -1
  · rw [if_pos c, decide_eq_true (by omega)]
  · rw [if_neg c, hS.g105_3, obs, iL2, hS.r107 (by omega) (by omega), obs, tn2, hR.nl, xJ hx1 hx2, xJ (by omega) (by omega), jL1, jJ_sub, jL0, s_in (by omega) (by omega) (by omega) (by omega) (by omega) (by omega), obs]
    by_cases d : 0 ≤ x ∧ x ≤ N 13 0 - 1
    · rw [if_pos (decide_eq_true d), show decide (-1 ≤ x ∧ x < N 13 0) = true from decide_eq_true (by omega)]
    · rw [if_neg (fun q => d (of_decide_eq_true q)), show decide (-1 ≤ x ∧ x < N 13 0) = false from decide_eq_false (by omega)]
theorem c_force (h : Inv S M B) {x : Int} (hx : zR x) : Ag1 S B M (fun M => F_NC_force n E S (B + 0) (iI x) M) (fun M => F_Mo_force n E S (B + 105) (iI x) M) := by
  obtain ⟨hS, hZ, ⟨N, Ls, hC, hM, hh, hP⟩, _⟩ := id h
  have hI := nA1.ni hS
  have hN := hC.2.1
  have hl := hN.nl
  have hx1 := hx.1
  have hx2 := hx.2
  by_cases c : -1 ≤ x ∧ x < N 13 0
  · have R1 := hC.1.setF 14 (by decide) (by decide) x
    have hR2 := hM.2.1.s_fo x
    have key : F_NC_force_b23 n E S (B + 0) (iI x) M = some (iI (N 14 0), setI (setI M (B + 1) 14 (iI x)) (B + 0) 15 (iI 0)) := by
      unfold F_NC_force_b23
      rw [hS.g0_0, obs, hI.i14 hC.1, obs, hI.p14, obs, s_accept hS, obs]
    refine Ag1.ch h hC hM hP (N' := nset N 14 0 x) (r := iI (N 14 0)) (M1 := setI (setI M (B + 1) 14 (iI x)) (B + 0) 15 (iI 0)) (M2 := setI (setI (setI (setI (setI M (B + 1) 14 (iI x)) (B + 0) 15 (iI 0)) (B + 105) 0 (iI 0)) (B + 107) 3 (iI x)) (B + 105) 1 (iI 0)) ?_ ?_ ?_ (fun _ => rfl) ?_ ?_ ?_ ?_ ?_ (hN.s14 c.1 c.2) hh rfl ?_
    · show F_NC_force n E S (B + 0) (iI x) M = _
      unfold F_NC_force
      rw [iLm1]
      simp (disch := omega) only [xeq]
      by_cases d : x = -1
      · rw [if_pos d]; exact key
      · rw [if_neg d, hS.g0_0, obs, hI.ck, obs, s_hasLaw hI hC.1 hN hx, obs, if_pos (decide_eq_true (by omega))]; exact key
    · refine (zAg.rfl'.setI ?_).setI ?_ <;> (unfold cXw; omega)
    · refine (R1.ag (X := fun b j => (b = B + 0 ∧ j = 15)) (zAg.rfl'.setI ?_) (fun b j q1 q2 q => by omega)) <;> omega
    · have hM1 : RwN (mI (setI (setI (setI M (B + 1) 14 (iI x)) (B + 0) 15 (iI 0)) (B + 105) 0 (iI 0)) (B + 107)) N := hM.2.1.cg (fun i _ => by rw [mI_a (by omega), mI_a (by omega), mI_a (by omega)])
      show F_Mo_force n E S (B + 105) (iI x) _ = _
      unfold F_Mo_force
      rw [iL0, hS.p105, obs, hS.ck105, obs, s_mLaw hS hM1 hN hx, obs, if_pos (decide_eq_true c), show (3 : Int32) = iI 3 by decide, s_change hS (by omega) (by omega), obs, tn3, hM1.fo]
    · refine ((zAg.rfl'.setI ?_).setI ?_).setI ?_ <;> (unfold mXw; omega)
    · refine hR2.cg (fun i _ => ?_)
      simp [mI_ite]
    · intro i hi
      rw [mI_a (by omega), mI_i (by omega), mI_a (by omega)]
    · rw [mI_s, mI_s]
    · right
      refine ⟨?_, ?_, snEq.rfl'⟩
      · rw [mI_a (by omega), mI_a (by omega)]
      · rw [mI_i (by omega), mI_a (by omega), mI_i (by omega)]
  · refine Ag1.rf (n := n) (E := E) h (code := -2) (Or.inr (Or.inl rfl)) ?_ (fun M1 hA => ?_)
    · show F_NC_force n E S (B + 0) (iI x) M = _
      unfold F_NC_force
      rw [iLm1]
      simp (disch := omega) only [xeq]
      rw [if_neg (by omega), hS.g0_0, obs, hI.ck, obs, s_hasLaw hI hC.1 hN hx, obs, if_neg (fun q => by have := of_decide_eq_true q; omega), be_]
      rfl
    · have hM1 := hM.rf hA
      show F_Mo_force n E S (B + 105) (iI x) M1 = _
      unfold F_Mo_force
      rw [iL0, hS.p105, obs, hS.ck105, obs, s_mLaw hS hM1.2.1 hN hx, obs, if_neg (fun q => c (of_decide_eq_true q)), be_]
      rfl
theorem s_addBk {a : Nat} (hS : NiS S a) (hR : NiR M a N) (hN : NdOK N) (hb : N 11 0 < 3) {s f : Int} : ∃ M', F_Ni_addBucket n E S a (iI s) (iI f) M = some (iI (N 11 0), M') ∧ NiR M' a (nset (nset (nset (nset N 3 (N 11 0).toNat s) 4 (N 11 0).toNat 0) 5 (N 11 0).toNat f) 11 0 (N 11 0 + 1)) ∧ zAg (fun b j => a ≤ b ∧ b < a + 12) M M' ∧ ∀ b j, mR M' b j = mR M b j := by
  have h0 := hN.nb
  have R1 := hR.set 3 (by decide) (N 11 0).toNat s
  have R2 := R1.set 4 (by decide) (N 11 0).toNat 0
  have R3 := R2.set 5 (by decide) (N 11 0).toNat f
  have R4 := R3.setF 11 (by decide) (by decide) (N 11 0 + 1)
  have e1 : ∀ k v, nset N 3 k v 11 0 = N 11 0 := fun k v => nset_c (by decide)
  have e2 : ∀ N' : Nt, ∀ k v, nset N' 4 k v 11 0 = N' 11 0 := fun N' k v => nset_c (by decide)
  have e3 : ∀ N' : Nt, ∀ k v, nset N' 5 k v 11 0 = N' 11 0 := fun N' k v => nset_c (by decide)
  refine ⟨_, ?_, R4, ?_, fun _ _ => rfl⟩
  · unfold F_Ni_addBucket
    simp (disch := omega) only [iL3, iL0, iL1, hS.i11 hR, Option.bind_some, xlt, if_pos, hS.g3, hS.w3, hS.i11 R1, hS.g4, hS.w4, hS.i11 R2, hS.g5, hS.w5, hS.i11 R3, hS.p11, hS.i11 R4, e1, e2, e3, iI_add, iI_sub, nset_s]
    congr 3
    omega
  · refine (((zAg.rfl'.setI ?_).setI ?_).setI ?_).setI ?_ <;> (constructor <;> omega)
theorem c_bucket (h : Inv S M B) (hn : 100000 ≤ n) {x y : Int} (hx : zR x) (hy : zR y) : Ag1 S B M (fun M => F_NC_bucket n E S (B + 0) (iI x) (iI y) M) (fun M => F_Mo_bucket n E S (B + 105) (iI x) (iI y) M) := by
  obtain ⟨hS, hZ, ⟨N, Ls, hC, hM, hh, hP⟩, _⟩ := id h
  have hI := nA1.ni hS
  have hN := hC.2.1
  have hnb := hN.nb
  have hx1 := hx.1
  have hx2 := hx.2
  have hba := bAt_b (N := N) (f := y)
  have w99 : ∀ M, F_Mo_in n E S (iI x).toInt64 1 99 M = some (decide (1 ≤ x ∧ x ≤ 99), M) := fun M => by
    rw [xJ hx1 hx2, jL1, show (99 : Int64) = jJ 99 by decide, s_in (by omega) (by omega) (by omega) (by omega) (by omega) (by omega)]
  have c99 : ∀ M, F_NC_within n E S (iI x) 1 99 M = some (decide (1 ≤ x ∧ x ≤ 99), M) := fun M => by
    rw [iL1, show (99 : Int32) = iI 99 by decide, s_withinI hx (zR_of (by omega) (by omega)) (zR_of (by omega) (by omega))]
  by_cases c : (1 ≤ x ∧ x ≤ 99) ∧ (0 ≤ y ∧ y ≤ 7)
  · by_cases cb : bAt N y = -1
    · by_cases c3 : N 11 0 < 3
      · have A1 : zAg (fun b j => b = B + 63 ∧ j = 1) M (setI M (B + 63) 1 (iI 0)) := zAg.rfl'.setI ⟨rfl, rfl⟩
        have R1 := hC.1.ag A1 (fun b j q1 q2 q => by omega)
        obtain ⟨M', ea, hR', hA', hQ'⟩ := s_addBk (n := n) (E := E) (s := x) (f := y) hI R1 hN c3
        have hs := hN.sB (k := (N 11 0).toNat) (s := x) (f := y) (by omega) c.1.1 c.1.2 c.2.1 (by omega)
        rw [show (((N 11 0).toNat : Nat) : Int) = N 11 0 by omega] at hs
        have hR2 := (((hM.2.1.s_siz (k := (N 11 0).toNat) (by omega) x).s_lev (k := (N 11 0).toNat) (by omega) 0).s_fie (k := (N 11 0).toNat) (by omega) y).s_nb (N 11 0 + 1)
        have hAc : zAg (cXw B) M (setI M' (B + 0) 15 (iI 0)) := by
          refine ((A1.mono (fun b j q => by unfold cXw; omega)).trans (hA'.mono (fun b j q => by unfold cXw; omega))).setI ?_
          unfold cXw; omega
        have q107 : ∀ i, mI (setI M' (B + 0) 15 (iI 0)) (B + 107) i = mI M (B + 107) i := fun i => (hAc _ _ (fun q => by unfold cXw at q; omega)).1
        have hM1 : RwN (mI (setI (setI M' (B + 0) 15 (iI 0)) (B + 105) 0 (iI 0)) (B + 107)) N := hM.2.1.cg (fun i _ => by rw [mI_a (by omega)]; exact q107 i)
        obtain ⟨v, ev, v1, v2, v3⟩ := s_mbAt (n := n) (E := E) (f := y) hS hM1 hN (by omega) hy
        have hv : v = -1 := v3.mpr cb
        refine Ag1.ch h hC hM hP (N' := nset (nset (nset (nset N 3 (N 11 0).toNat x) 4 (N 11 0).toNat 0) 5 (N 11 0).toNat y) 11 0 (N 11 0 + 1)) (r := iI (N 11 0)) (M1 := setI M' (B + 0) 15 (iI 0)) (M2 := setI (setI (setI (setI (setI (setI (setI (setI M' (B + 0) 15 (iI 0)) (B + 105) 0 (iI 0)) (B + 107) (54 + N 11 0).toNat (iI x)) (B + 107) (48 + N 11 0).toNat (iI 0)) (B + 107) (51 + N 11 0).toNat (iI y)) (B + 107) 0 (iI (N 11 0 + 1))) (B + 105) 8 (iI 0)) (B + 105) 1 (iI 0)) ?_ hAc ?_ ?_ ?_ ?_ ?_ ?_ ?_ hs hh rfl ?_
        · show F_NC_bucket n E S (B + 0) (iI x) (iI y) M = _
          unfold F_NC_bucket
          rw [c99, obs, if_pos (decide_eq_true c.1), s_isField hy, obs, if_pos (decide_eq_true c.2), hS.g0_0, obs, hI.ck, obs, s_bucketAt hI hC.1 hN (by omega) hy, obs, cb, if_pos m1p, hI.i11 hC.1, obs, show (3 : Int32) = iI 3 by decide, if_pos (by rw [xlt (by omega) (by omega) (by omega) (by omega)]; exact c3), hS.g0_5, obs, hS.ck63, obs, s_clear hS, obs, ea, obs, s_accept hS, obs]
        · exact hR'.ag (X := fun b j => (b = B + 0 ∧ j = 15)) (zAg.rfl'.setI ⟨rfl, rfl⟩) (fun b j q1 q2 q => by omega)
        · intro j
          exact hQ' (B + 12) j
        · show F_Mo_bucket n E S (B + 105) (iI x) (iI y) _ = _
          unfold F_Mo_bucket F_Mo_lasting F_Mo_lasting_b13
          rw [iL0, hS.p105, obs, w99, obs, if_pos (decide_eq_true c.1), s_mField hy, obs, if_pos (decide_eq_true c.2), hS.ck105, obs, ev, obs, hv, if_pos m1p, hS.g105_3, obs, hS.r107 (by omega) (by omega), obs, tn0, hM1.nb, show (3 : Int32) = iI 3 by decide, if_neg (by rw [xeq (by omega) (by omega) (by omega) (by omega)]; omega), show (54 : Int32) = iI 54 by decide, iI_add, hS.w107 (by omega) (by omega), obs, show (48 : Int32) = iI 48 by decide, iI_add, hS.w107 (by omega) (by omega), obs, show (51 : Int32) = iI 51 by decide, iI_add, hS.w107 (by omega) (by omega), obs, hS.r107 (by omega) (by omega), obs, tn0, mI_i (by omega), mI_i (by omega), mI_i (by omega), hM1.nb, iL1, iI_add, hS.w107 (by omega) (by omega), obs, tn0, if_pos (by rw [xle (by omega) (by omega) (by omega) (by omega)]; omega), hS.p105, obs, obs, s_tellP hS (by omega) (by omega), obs, obs]
        · refine ((((((zAg.rfl'.setI ?_).setI ?_).setI ?_).setI ?_).setI ?_).setI ?_).setI ?_ <;> (unfold mXw; omega)
        · rw [show (54 + N 11 0).toNat = 54 + (N 11 0).toNat by omega, show (48 + N 11 0).toNat = 48 + (N 11 0).toNat by omega, show (51 + N 11 0).toNat = 51 + (N 11 0).toNat by omega]
          refine hR2.cg (fun i _ => ?_)
          simp only [mI_ite]
          rw [show (if B + 107 = B + 0 ∧ i = 15 then iI 0 else mI M' (B + 107) i) = mI M (B + 107) i from q107 i]
          simp
        · intro i hi
          rw [mI_a (by omega), mI_a (by omega), mI_i (by omega), mI_i (by omega), mI_i (by omega), mI_i (by omega), mI_a (by omega)]
        · rw [mI_s, mI_s]
        · left
          refine ⟨?_, ?_⟩
          · rw [mI_a (by omega), (hA' (B + 63) 1 (fun q => by omega)).1, mI_s]
          · rw [mI_i (by omega), mI_s]
      · refine Ag1.rf (n := n) (E := E) h (code := -5) (Or.inr (Or.inr (Or.inr (Or.inl rfl)))) ?_ (fun M1 hA => ?_)
        · show F_NC_bucket n E S (B + 0) (iI x) (iI y) M = _
          unfold F_NC_bucket
          rw [c99, obs, if_pos (decide_eq_true c.1), s_isField hy, obs, if_pos (decide_eq_true c.2), hS.g0_0, obs, hI.ck, obs, s_bucketAt hI hC.1 hN (by omega) hy, obs, cb, if_pos m1p, hI.i11 hC.1, obs, show (3 : Int32) = iI 3 by decide, if_neg (by rw [xlt (by omega) (by omega) (by omega) (by omega)]; exact c3), be_]
          rfl
        · have hM1 := hM.rf hA
          obtain ⟨v, ev, v1, v2, v3⟩ := s_mbAt (n := n) (E := E) (f := y) hS hM1.2.1 hN (by omega) hy
          have hv : v = -1 := v3.mpr cb
          show F_Mo_bucket n E S (B + 105) (iI x) (iI y) M1 = _
          unfold F_Mo_bucket
          rw [iL0, hS.p105, obs, w99, obs, if_pos (decide_eq_true c.1), s_mField hy, obs, if_pos (decide_eq_true c.2), hS.ck105, obs, ev, obs, hv, if_pos m1p, hS.g105_3, obs, hS.r107 (by omega) (by omega), obs, tn0, hM1.2.1.nb, show (3 : Int32) = iI 3 by decide, if_pos (by rw [xeq (by omega) (by omega) (by omega) (by omega)]; omega), be_]
          rfl
    · refine Ag1.rf (n := n) (E := E) h (code := -3) (Or.inr (Or.inr (Or.inl rfl))) ?_ (fun M1 hA => ?_)
      · show F_NC_bucket n E S (B + 0) (iI x) (iI y) M = _
        unfold F_NC_bucket
        rw [c99, obs, if_pos (decide_eq_true c.1), s_isField hy, obs, if_pos (decide_eq_true c.2), hS.g0_0, obs, hI.ck, obs, s_bucketAt hI hC.1 hN (by omega) hy, obs, if_neg (by rw [iLm1, xeq (by omega) (by omega) (by omega) (by omega)]; exact cb), be_]
        rfl
      · have hM1 := hM.rf hA
        obtain ⟨v, ev, v1, v2, v3⟩ := s_mbAt (n := n) (E := E) (f := y) hS hM1.2.1 hN (by omega) hy
        have hv : ¬ v = -1 := fun q => cb (v3.mp q)
        show F_Mo_bucket n E S (B + 105) (iI x) (iI y) M1 = _
        unfold F_Mo_bucket
        rw [iL0, hS.p105, obs, w99, obs, if_pos (decide_eq_true c.1), s_mField hy, obs, if_pos (decide_eq_true c.2), hS.ck105, obs, ev, obs, if_neg (by rw [iLm1, xeq (by omega) (by omega) (by omega) (by omega)]; exact hv), be_]
        rfl
  · refine Ag1.rf (n := n) (E := E) h (code := -1) (Or.inl rfl) ?_ (fun M1 hA => ?_)
    · show F_NC_bucket n E S (B + 0) (iI x) (iI y) M = _
      unfold F_NC_bucket F_NC_bucket_b17
      rw [c99, obs]
      by_cases c1 : 1 ≤ x ∧ x ≤ 99
      · rw [if_pos (decide_eq_true c1), s_isField hy, obs, if_neg (fun q => c ⟨c1, of_decide_eq_true q⟩), hS.ck0, obs, be_]; rfl
      · rw [if_neg (fun q => c1 (of_decide_eq_true q)), hS.ck0, obs, be_]; rfl
    · show F_Mo_bucket n E S (B + 105) (iI x) (iI y) M1 = _
      unfold F_Mo_bucket F_Mo_bucket_b24
      rw [hS.p105, obs, w99, obs]
      by_cases c1 : 1 ≤ x ∧ x ≤ 99
      · rw [if_pos (decide_eq_true c1), s_mField hy, obs, if_neg (fun q => c ⟨c1, of_decide_eq_true q⟩), hS.ck105, obs, be_]; rfl
      · rw [if_neg (fun q => c1 (of_decide_eq_true q)), hS.ck105, obs, be_]; rfl
end
