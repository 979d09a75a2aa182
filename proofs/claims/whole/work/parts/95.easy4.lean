/-! CASES (4): drawn, count -/
section
variable {n : Nat} {E : zE} {S : zS} {M : zH} {B : Nat} {N : Nt} {Ls : Nat → Lw}
theorem s_mlevels (hS : ShOK S B) (hR : RwN (mI M (B + 107)) N) (hN : NdOK N) (hn : 100 ≤ n) : F_Mo_levels n E S (B + 105) M = some (iI (zsum (N 4) (N 11 0).toNat), M) := by
  have hb := hN.nb
  unfold F_Mo_levels F_Mo_levels_b4
  obtain ⟨m, e⟩ := zfix_for (F := fun r4 s => F_Mo_levels_L4 n E S r4 s.1 s.2.1 s.2.2.1 s.2.2.2) (fun i => (B + 105, iI (zsum (N 4) i), iI (i : Int), M)) (N 11 0).toNat (fun i hi rec => by
    show F_Mo_levels_L4 n E S rec (B + 105) (iI (zsum (N 4) i)) (iI i) M = _
    unfold F_Mo_levels_L4
    rw [hS.g105_3, obs, iL0, hS.r107 (by omega) (by omega), obs, tn0, hR.nb, if_neg (by rw [xle (by omega) (by omega) (by omega) (by omega)]; omega), show (48 : Int32) = iI 48 by decide, iI_add, hS.r107 (by omega) (by omega), obs, hR.lev (by omega) (by omega), iL1, iI_add, iI_add]
    rfl) (k := n) (by omega)
  refine e.trans ?_
  show F_Mo_levels_L4 n E S _ (B + 105) (iI (zsum (N 4) (N 11 0).toNat)) (iI ((N 11 0).toNat : Int)) M = _
  unfold F_Mo_levels_L4
  rw [hS.g105_3, obs, iL0, hS.r107 (by omega) (by omega), obs, tn0, hR.nb, if_pos (by rw [xle (by omega) (by omega) (by omega) (by omega)]; omega)]
/-- how many bits -/
def onesV (x : Int) : Nat → Int := zsum (fun k => x / 2 ^ k % 2)
theorem s_ones (hn : 100 ≤ n) {x : Int} (h1 : 0 ≤ x) (h2 : x < 2147483648) : F_Mo_ones n E S (iI x) M = some (iI (onesV x 8), M) := by
  unfold F_Mo_ones F_Mo_ones_b4
  obtain ⟨m, e⟩ := zfix_for (F := fun r4 s => F_Mo_ones_L4 n E S r4 s.1 s.2.1 s.2.2.1 s.2.2.2) (fun i => (iI x, iI (onesV x i), iI (i : Int), M)) 8 (fun i hi rec => by
    show F_Mo_ones_L4 n E S rec (iI x) (iI (onesV x i)) (iI i) M = _
    unfold F_Mo_ones_L4
    rw [if_neg (by rw [iL8, xle (by omega) (by omega) (by omega) (by omega)]; omega), show (31 : Int32) = iI 31 by decide, xshr (by omega) (by omega) (by omega) (by omega), iL1, xand1, iI_add, iI_add, Int.toNat_natCast]
    rfl) (k := n) (by omega)
  refine e.trans ?_
  show F_Mo_ones_L4 n E S _ (iI x) (iI (onesV x 8)) (iI (8 : Nat)) M = _
  unfold F_Mo_ones_L4
  rw [if_pos (by decide)]
theorem ones_mask (hN : NdOK N) {r : Nat} (hr : r < 4) : onesV (bmask N r) 8 = N 1 (8 * r) + N 1 (8 * r + 1) + N 1 (8 * r + 2) + N 1 (8 * r + 3) + N 1 (8 * r + 4) + N 1 (8 * r + 5) + N 1 (8 * r + 6) + N 1 (8 * r + 7) := by
  have e := fun h hh => bmask_bit (h := h) hN hr hh
  unfold onesV
  simp only [zsum_s, e 0 (by decide), e 1 (by decide), e 2 (by decide), e 3 (by decide), e 4 (by decide), e 5 (by decide), e 6 (by decide), e 7 (by decide)]
  show 0 + _ + _ + _ + _ + _ + _ + _ + _ = _
  simp only [Nat.add_zero, Int.zero_add]
theorem s_mblocked (hS : ShOK S B) (hR : RwN (mI M (B + 107)) N) (hN : NdOK N) (hn : 100 ≤ n) : F_Mo_blockedOnes n E S (B + 105) M = some (iI (zsum (N 1) 32), M) := by
  unfold F_Mo_blockedOnes F_Mo_blockedOnes_b4
  obtain ⟨m, e⟩ := zfix_for (F := fun r4 s => F_Mo_blockedOnes_L4 n E S r4 s.1 s.2.1 s.2.2.1 s.2.2.2) (fun i => (B + 105, iI (zsum (N 1) (8 * i)), iI (i : Int), M)) 4 (fun i hi rec => by
    have hb := bmask_b hN hi
    show F_Mo_blockedOnes_L4 n E S rec (B + 105) (iI (zsum (N 1) (8 * i))) (iI i) M = _
    unfold F_Mo_blockedOnes_L4
    rw [if_neg (by rw [iL4, xle (by omega) (by omega) (by omega) (by omega)]; omega), hS.g105_3, obs, iL44, iI_add, hS.r107 (by omega) (by omega), obs, hR.blk (by omega) (by omega), Int.toNat_natCast, s_ones (by omega) hb.1 (by omega), obs, ones_mask hN hi]
    show rec (B + 105, iI (zsum (N 1) (8 * i)) + iI _, iI i + 1, M) = _
    rw [iI_add, iL1, iI_add]
    have ez : zsum (N 1) (8 * (i + 1)) = zsum (N 1) (8 * i) + (N 1 (8 * i) + N 1 (8 * i + 1) + N 1 (8 * i + 2) + N 1 (8 * i + 3) + N 1 (8 * i + 4) + N 1 (8 * i + 5) + N 1 (8 * i + 6) + N 1 (8 * i + 7)) := by
      rw [show 8 * (i + 1) = 8 * i + 7 + 1 by omega, zsum_s, show 8 * i + 7 = 8 * i + 6 + 1 by omega, zsum_s, show 8 * i + 6 = 8 * i + 5 + 1 by omega, zsum_s, show 8 * i + 5 = 8 * i + 4 + 1 by omega, zsum_s, show 8 * i + 4 = 8 * i + 3 + 1 by omega, zsum_s, show 8 * i + 3 = 8 * i + 2 + 1 by omega, zsum_s, show 8 * i + 2 = 8 * i + 1 + 1 by omega, zsum_s, zsum_s]
      omega
    rw [ez]
    rfl) (k := n) (by omega)
  refine e.trans ?_
  show F_Mo_blockedOnes_L4 n E S _ (B + 105) (iI (zsum (N 1) 32)) (iI (4 : Nat)) M = _
  unfold F_Mo_blockedOnes_L4
  rw [if_pos (by decide)]
theorem s_blockedHoles {a : Nat} (hI : NiS S a) (hR : NiR M a N) (hN : NdOK N) (hn : 100 ≤ n) : F_Ni_blockedHoles n E S a M = some (iI (zsum (N 1) 32), M) := by
  have h1 := hI.2 1 (by decide)
  unfold F_Ni_blockedHoles F_Ni_blockedHoles_b13
  rw [hI.g1, obs, pz_len (c := 13) (L := 32) h1.2.1 h1.2.2, obs, ← iI_nat]
  obtain ⟨m, e⟩ := zfix_for (F := fun r13 s => F_Ni_blockedHoles_L13 n E S r13 s.1 s.2.1 s.2.2.1 s.2.2.2.1 s.2.2.2.2) (fun i => (iI (zsum (N 1) i), a + 1 + 1, iI ((32 : Nat) : Int), iI (i : Int), M)) 32 (fun i hi rec => by
    have hk := hN.blk hi
    show F_Ni_blockedHoles_L13 n E S rec (iI (zsum (N 1) i)) (a + 1 + 1) (iI ((32 : Nat) : Int)) (iI i) M = _
    unfold F_Ni_blockedHoles_L13 F_Ni_blockedHoles_b36
    rw [if_neg (by rw [xle (by omega) (by omega) (by omega) (by omega)]; omega), hI.r1 hR (by omega) (by omega), obs, Int.toNat_natCast]
    rcases hk with hk | hk
    · rw [hk, if_pos (by decide), iL0, iL1, iI_add, iI_add, zsum_s, hk]; rfl
    · rw [hk, if_neg (by decide), iL1, iI_add, iI_add, zsum_s, hk]; rfl) (k := n) (by omega)
  refine e.trans ?_
  show F_Ni_blockedHoles_L13 n E S _ (iI (zsum (N 1) 32)) (a + 1 + 1) (iI ((32 : Nat) : Int)) (iI ((32 : Nat) : Int)) M = _
  unfold F_Ni_blockedHoles_L13
  rw [if_pos (by decide)]
theorem c_count (h : Inv S M B) (hn : 100000 ≤ n) {x : Int} (hx : zR x) : Ag1 S B M (fun M => F_NC_count n E S (B + 0) (iI x) M) (fun M => F_Mo_count n E S (B + 105) (iI x) M) := by
  obtain ⟨hS, hZ, ⟨N, Ls, hC, hM', hh9, hP⟩, hI0, hI1, hT, hMi, hY, hCo⟩ := id h
  have hI := nA1.ni hS
  have hN := hC.2.1
  have hM := hM'.mq (mQ_0 (M := M))
  have hx1 := hx.1
  have hx2 := hx.2
  obtain ⟨u, _, _, _, _, _, _, pu1, pu2, _⟩ := hP
  obtain ⟨l, _, _, tl1, tl2, _⟩ := hT
  obtain ⟨_, b1, b2, b3, b4, b5⟩ := hMi
  have q106 : ∀ j, mI (setI M (B + 105) 0 (iI 0)) (B + 106) j = mI M (B + 106) j := fun j => mI_a (by omega)
  have W : ∀ u v : Int, zR u → zR v → F_NC_within n E S (iI x) (iI u) (iI v) M = some (decide (u ≤ x ∧ x ≤ v), M) := fun u v hu hv => s_withinI hx hu hv
  have w1 := W 7 11 (zR_of (by decide) (by decide)) (zR_of (by decide) (by decide))
  have w2 := W 13 16 (zR_of (by decide) (by decide)) (zR_of (by decide) (by decide))
  have E1 : ∀ m : Int, 0 ≤ m → m ≤ 12 → (iI x = iI m) = (x = m) := fun m h1 h2 => xeq hx1 hx2 (by omega) (by omega)
  have key : ∀ r, F_NC_count n E S (B + 0) (iI x) M = some (r, M) → F_Mo_count n E S (B + 105) (iI x) M = some (r, setI M (B + 105) 0 (iI 0)) → Ag1 S B M (fun M => F_NC_count n E S (B + 0) (iI x) M) (fun M => F_Mo_count n E S (B + 105) (iI x) M) := fun r h1 h2 => Ag1.same h r h1 h2
  by_cases c1 : 7 ≤ x ∧ x ≤ 11
  · have hc : F_NC_count n E S (B + 0) (iI x) M = some (mI M (B + 104) (x - 7).toNat, M) := by
      unfold F_NC_count
      rw [show (7 : Int32) = iI 7 by decide, show (11 : Int32) = iI 11 by decide, w1, obs, if_pos (decide_eq_true c1), hS.g0_13, obs, iI_sub, hS.r104 (by omega) (by omega), obs]
    refine key _ hc ?_
    unfold F_Mo_count
    rw [iL0, hS.p105, obs]
    simp only [iL1, iL2, iL3, iL4, iL5, iL6, iL7, iL8, iL9, iL10, iL11, iL12, E1 0 (by decide) (by decide), E1 1 (by decide) (by decide), E1 2 (by decide) (by decide), E1 3 (by decide) (by decide), E1 4 (by decide) (by decide), E1 5 (by decide) (by decide), E1 6 (by decide) (by decide), E1 7 (by decide) (by decide), E1 8 (by decide) (by decide), E1 9 (by decide) (by decide), E1 10 (by decide) (by decide), E1 11 (by decide) (by decide), E1 12 (by decide) (by decide)]
    rw [if_neg (show ¬ x = 0 by omega), if_neg (show ¬ x = 1 by omega), if_neg (show ¬ x = 2 by omega), if_neg (show ¬ x = 3 by omega), if_neg (show ¬ x = 4 by omega), if_neg (show ¬ x = 5 by omega), if_neg (show ¬ x = 6 by omega)]
    rcases (show x = 7 ∨ x = 8 ∨ x = 9 ∨ x = 10 ∨ x = 11 by omega) with rfl | rfl | rfl | rfl | rfl
    · rw [if_pos rfl, hS.g105_2, obs, hS.r106 (by decide) (by decide), obs, q106]; exact congrArg (fun z => some (z, _)) b1.symm
    · rw [if_neg (by decide), if_pos rfl, hS.g105_2, obs, hS.r106 (by decide) (by decide), obs, q106]; exact congrArg (fun z => some (z, _)) b2.symm
    · rw [if_neg (by decide), if_neg (by decide), if_pos rfl, hS.g105_2, obs, hS.r106 (by decide) (by decide), obs, q106]; exact congrArg (fun z => some (z, _)) b3.symm
    · rw [if_neg (by decide), if_neg (by decide), if_neg (by decide), if_pos rfl, hS.g105_2, obs, hS.r106 (by decide) (by decide), obs, q106]; exact congrArg (fun z => some (z, _)) b4.symm
    · rw [if_neg (by decide), if_neg (by decide), if_neg (by decide), if_neg (by decide), if_pos rfl, hS.g105_2, obs, hS.r106 (by decide) (by decide), obs, q106]; exact congrArg (fun z => some (z, _)) b5.symm
  have hcc : F_NC_count n E S (B + 0) (iI x) M = if 13 ≤ x ∧ x ≤ 16 then some (iI (N 9 (x - 13).toNat), M) else if x = 0 then some (iI (N 11 0), M) else if x = 1 then some (iI (zsum (N 4) (N 11 0).toNat), M) else if x = 2 then some (iI (zsum (N 1) 32), M) else if x = 3 then some (iI (N 12 0), M) else if x = 4 then some (iI (N 13 0), M) else if x = 5 then some (iI (u : Int), M) else if x = 6 then some (iI (l : Int), M) else if x = 12 then some (iI (N 14 0), M) else some (iI (-1), M) := by
    unfold F_NC_count
    rw [show (7 : Int32) = iI 7 by decide, show (11 : Int32) = iI 11 by decide, show (13 : Int32) = iI 13 by decide, show (16 : Int32) = iI 16 by decide, w1, obs, if_neg (fun q => c1 (of_decide_eq_true q)), w2, obs]
    by_cases c2 : 13 ≤ x ∧ x ≤ 16
    · rw [if_pos (decide_eq_true c2), if_pos c2, hS.g0_0, obs, hI.g9, obs, iI_sub, hI.r9 hC.1 (by omega) (by omega), obs]
    · rw [if_neg (fun q => c2 (of_decide_eq_true q)), if_neg c2]
      simp only [iL0, iL1, iL2, iL3, iL4, iL5, iL6, iL8, iL9, iL10, iL12, iI_neg, E1 0 (by decide) (by decide), E1 1 (by decide) (by decide), E1 2 (by decide) (by decide), E1 3 (by decide) (by decide), E1 4 (by decide) (by decide), E1 5 (by decide) (by decide), E1 6 (by decide) (by decide), E1 7 (by decide) (by decide), E1 8 (by decide) (by decide), E1 9 (by decide) (by decide), E1 10 (by decide) (by decide), E1 11 (by decide) (by decide), E1 12 (by decide) (by decide), hS.g0_0, obs, hI.ck, hI.i11 hC.1, hI.i12 hC.1, hI.i13 hC.1, hI.i14 hC.1, s_allLevels hI hC.1 hN (show 10 ≤ n by omega), s_blockedHoles hI hC.1 hN (show 100 ≤ n by omega), hS.g0_5, hS.i63, pu1, hS.g0_7, hS.i67, tl1]
      rw [if_neg (show ¬ x = 7 by omega), if_neg (show ¬ x = 8 by omega), if_neg (show ¬ x = 9 by omega), if_neg (show ¬ x = 10 by omega), if_neg (show ¬ x = 11 by omega)]
  have hmm : F_Mo_count n E S (B + 105) (iI x) M = if 13 ≤ x ∧ x ≤ 16 then some (iI (N 9 (x - 13).toNat), setI M (B + 105) 0 (iI 0)) else if x = 0 then some (iI (N 11 0), setI M (B + 105) 0 (iI 0)) else if x = 1 then some (iI (zsum (N 4) (N 11 0).toNat), setI M (B + 105) 0 (iI 0)) else if x = 2 then some (iI (zsum (N 1) 32), setI M (B + 105) 0 (iI 0)) else if x = 3 then some (iI (N 12 0), setI M (B + 105) 0 (iI 0)) else if x = 4 then some (iI (N 13 0), setI M (B + 105) 0 (iI 0)) else if x = 5 then some (iI (u : Int), setI M (B + 105) 0 (iI 0)) else if x = 6 then some (iI (l : Int), setI M (B + 105) 0 (iI 0)) else if x = 12 then some (iI (N 14 0), setI M (B + 105) 0 (iI 0)) else some (iI (-1), setI M (B + 105) 0 (iI 0)) := by
    unfold F_Mo_count
    rw [iL0, hS.p105, obs]
    simp only [iL1, iL2, iL3, iL4, iL5, iL6, iL7, iL8, iL9, iL10, iL11, iL12, iI_neg, E1 0 (by decide) (by decide), E1 1 (by decide) (by decide), E1 2 (by decide) (by decide), E1 3 (by decide) (by decide), E1 4 (by decide) (by decide), E1 5 (by decide) (by decide), E1 6 (by decide) (by decide), E1 7 (by decide) (by decide), E1 8 (by decide) (by decide), E1 9 (by decide) (by decide), E1 10 (by decide) (by decide), E1 11 (by decide) (by decide), E1 12 (by decide) (by decide)]
    by_cases c2 : 13 ≤ x ∧ x ≤ 16
    · rw [if_pos c2, if_neg (show ¬ x = 0 by omega), if_neg (show ¬ x = 1 by omega), if_neg (show ¬ x = 2 by omega), if_neg (show ¬ x = 3 by omega), if_neg (show ¬ x = 4 by omega), if_neg (show ¬ x = 5 by omega), if_neg (show ¬ x = 6 by omega), if_neg (show ¬ x = 7 by omega), if_neg (show ¬ x = 8 by omega), if_neg (show ¬ x = 9 by omega), if_neg (show ¬ x = 10 by omega), if_neg (show ¬ x = 11 by omega), if_neg (show ¬ x = 12 by omega), xJ hx1 hx2, show (13 : Int64) = jJ 13 by decide, show (16 : Int64) = jJ 16 by decide, s_in (by omega) (by omega) (by omega) (by omega) (by omega) (by omega), obs, if_pos (decide_eq_true c2), hS.g105_3, obs, show (13 : Int32) = iI 13 by decide, iI_add, iI_sub, show 4 + x - 13 = 4 + (x - 13) by omega, hS.r107 (by omega) (by omega), obs, hM.2.1.term (by omega) (by omega)]
    · rw [if_neg c2, if_neg (show ¬ x = 7 by omega), if_neg (show ¬ x = 8 by omega), if_neg (show ¬ x = 9 by omega), if_neg (show ¬ x = 10 by omega), if_neg (show ¬ x = 11 by omega), xJ hx1 hx2, show (13 : Int64) = jJ 13 by decide, show (16 : Int64) = jJ 16 by decide, s_in (by omega) (by omega) (by omega) (by omega) (by omega) (by omega), obs, if_neg (fun q => c2 (of_decide_eq_true q))]
      have m8 : mI (setI M (B + 105) 0 (iI 0)) (B + 105) 8 = iI (u : Int) := by rw [mI_i (by decide)]; exact pu2
      have m13 : mI (setI M (B + 105) 0 (iI 0)) (B + 105) 13 = iI (l : Int) := by rw [mI_i (by decide)]; exact tl2
      simp (disch := omega) only [hS.g105_3, obs, hS.r107, tn0, tn1, tn2, tn3, hM.2.1.nb, hM.2.1.ns, hM.2.1.nl, hM.2.1.fo, hS.ck105, s_mlevels hS hM.2.1 hN (show 100 ≤ n by omega), s_mblocked hS hM.2.1 hN (show 100 ≤ n by omega), hS.i105, m8, m13]
  have : ∃ r, F_NC_count n E S (B + 0) (iI x) M = some (r, M) ∧ F_Mo_count n E S (B + 105) (iI x) M = some (r, setI M (B + 105) 0 (iI 0)) := by
    rw [hcc, hmm]
    by_cases c2 : 13 ≤ x ∧ x ≤ 16
    · rw [if_pos c2, if_pos c2]; exact ⟨_, rfl, rfl⟩
    rw [if_neg c2, if_neg c2]
    by_cases c : x = 0
    · rw [if_pos c, if_pos c]; exact ⟨_, rfl, rfl⟩
    rw [if_neg c, if_neg c]; clear c
    by_cases c : x = 1
    · rw [if_pos c, if_pos c]; exact ⟨_, rfl, rfl⟩
    rw [if_neg c, if_neg c]; clear c
    by_cases c : x = 2
    · rw [if_pos c, if_pos c]; exact ⟨_, rfl, rfl⟩
    rw [if_neg c, if_neg c]; clear c
    by_cases c : x = 3
    · rw [if_pos c, if_pos c]; exact ⟨_, rfl, rfl⟩
    rw [if_neg c, if_neg c]; clear c
    by_cases c : x = 4
    · rw [if_pos c, if_pos c]; exact ⟨_, rfl, rfl⟩
    rw [if_neg c, if_neg c]; clear c
    by_cases c : x = 5
    · rw [if_pos c, if_pos c]; exact ⟨_, rfl, rfl⟩
    rw [if_neg c, if_neg c]; clear c
    by_cases c : x = 6
    · rw [if_pos c, if_pos c]; exact ⟨_, rfl, rfl⟩
    rw [if_neg c, if_neg c]; clear c
    by_cases c : x = 12
    · rw [if_pos c, if_pos c]; exact ⟨_, rfl, rfl⟩
    · rw [if_neg c, if_neg c]; exact ⟨_, rfl, rfl⟩
  obtain ⟨r, e1, e2⟩ := this
  exact key r e1 e2
theorem c_drawn (h : Inv S M B) (hn : 100000 ≤ n) {x z : Int} (hx : zR x) (hz : zR z) : Ag1 S B M (fun M => F_NC_drawn n E S (B + 0) (iI x) (iI z) M) (fun M => F_Mo_drawn n E S (B + 105) (iI x) (iI z) M) := by
  obtain ⟨hS, hZ, _, hI0, hI1, hT, hMi, hY, hCo⟩ := id h
  have hx1 := hx.1
  have hx2 := hx.2
  have hz1 := hz.1
  have hz2 := hz.2
  have q56 : mI (setI M (B + 105) 0 (iI 0)) (B + 105) 56 = mI M (B + 105) 56 := mI_i (by decide)
  have q135 : ∀ j, mI (setI M (B + 105) 0 (iI 0)) (B + 135) j = mI M (B + 135) j := fun j => mI_a (by omega)
  rcases hY with ⟨y1, y2⟩ | ⟨y1, N, hN, hR, y2, y3, y4⟩
  · refine Ag1.same h (iI (-1)) ?_ ?_
    · show F_NC_drawn n E S (B + 0) (iI x) (iI z) M = _
      unfold F_NC_drawn
      rw [hS.i0, obs, y1, if_pos rfl]; rfl
    · show F_Mo_drawn n E S (B + 105) (iI x) (iI z) M = _
      unfold F_Mo_drawn
      rw [iL0, hS.p105, obs, hS.i105, obs, q56, y2, if_pos (by decide)]; rfl
  · have hI : NiS S (B + 39) := hS.yea
    have hb := hN.nb
    have hmo : ∀ (x2 hi : Int), 0 ≤ x2 → x2 ≤ 2 → 0 ≤ hi → hi ≤ 4 → (x2 = 2 → hi ≤ 3) → F_Mo_drawn_b41 n E S (B + 105) (iI x) (iI x2) (iI hi) 0 (jJ x) (setI M (B + 105) 0 (iI 0)) = if 0 ≤ x ∧ x ≤ hi - 1 then some (mI M (B + 135) (4 * x2 + x).toNat, setI M (B + 105) 0 (iI 0)) else some (iI (-1), setI M (B + 105) 0 (iI 0)) := by
      intro x2 hi a1 a2 a3 a4 a5
      unfold F_Mo_drawn_b41
      rw [xJ (by omega) (by omega), jL1, jJ_sub, jL0, s_in (by omega) (by omega) (by omega) (by omega) (by omega) (by omega), obs]
      by_cases c : 0 ≤ x ∧ x ≤ hi - 1
      · rw [if_pos (decide_eq_true c), if_pos c, hS.g105_55, obs, iL4, iI_mul, iI_add, hS.r135 (by omega) (by omega), obs, q135]
      · rw [if_neg (fun q => c (of_decide_eq_true q)), if_neg c]; rfl
    have hcl : F_NC_drawn n E S (B + 0) (iI x) (iI z) M = if z = 0 then (if 0 ≤ x ∧ x ≤ 3 then some (iI (zsum (fun h => N 0 (x * 8 + h).toNat) 8), M) else some (iI (-1), M)) else if z = 1 then (if 0 ≤ x ∧ x ≤ 3 then some (iI (N 2 x.toNat), M) else some (iI (-1), M)) else if z = 2 then (if 0 ≤ x ∧ x ≤ N 11 0 - 1 then some (iI (N 4 x.toNat), M) else some (iI (-1), M)) else some (iI (-1), M) := by
      unfold F_NC_drawn
      rw [hS.i0, obs, y1, if_neg (by decide)]
      simp (disch := omega) only [iL0, iL1, iL2, iI_neg, xeq, s_isRing hx, obs, hS.g0_3, hI.ck, s_hasBucket hI hR hN hx, hI.g2, hI.g4]
      by_cases c0 : z = 0
      · rw [if_pos c0, if_pos c0]
        by_cases c : 0 ≤ x ∧ x ≤ 3
        · rw [if_pos (decide_eq_true c), if_pos c, s_boresOfRing hI hR hN (by omega) c.1 (by omega), obs]
        · rw [if_neg (fun q => c (of_decide_eq_true q)), if_neg c]
      rw [if_neg c0, if_neg c0]
      by_cases c1 : z = 1
      · rw [if_pos c1, if_pos c1]
        by_cases c : 0 ≤ x ∧ x ≤ 3
        · rw [if_pos (decide_eq_true c), if_pos c, hI.r2 hR c.1 (by omega), obs]
        · rw [if_neg (fun q => c (of_decide_eq_true q)), if_neg c]
      rw [if_neg c1, if_neg c1]
      by_cases c2 : z = 2
      · rw [if_pos c2, if_pos c2]
        by_cases c : 0 ≤ x ∧ x ≤ N 11 0 - 1
        · rw [if_pos (decide_eq_true c), if_pos c, hI.r4 hR c.1 (by omega), obs]
        · rw [if_neg (fun q => c (of_decide_eq_true q)), if_neg c]
      rw [if_neg c2, if_neg c2]
    have hml : F_Mo_drawn n E S (B + 105) (iI x) (iI z) M = if 0 ≤ z ∧ z ≤ 2 then (if 2 ≤ z then (if 0 ≤ x ∧ x ≤ N 11 0 - 1 then some (mI M (B + 135) (4 * z + x).toNat, setI M (B + 105) 0 (iI 0)) else some (iI (-1), setI M (B + 105) 0 (iI 0))) else (if 0 ≤ x ∧ x ≤ 4 - 1 then some (mI M (B + 135) (4 * z + x).toNat, setI M (B + 105) 0 (iI 0)) else some (iI (-1), setI M (B + 105) 0 (iI 0)))) else some (iI (-1), setI M (B + 105) 0 (iI 0)) := by
      unfold F_Mo_drawn
      rw [iL0, hS.p105, obs, hS.i105, obs, q56, y2, if_neg (by rw [iLm1, xeq (by omega) (by omega) (by omega) (by omega)]; omega), xJ hz1 hz2, show (2 : Int64) = jJ 2 by decide]
      rw [show F_Mo_in n E S (jJ z) 0 (jJ 2) (setI M (B + 105) 0 (iI 0)) = some (decide (0 ≤ z ∧ z ≤ 2), setI M (B + 105) 0 (iI 0)) by rw [jL0]; exact s_in (by omega) (by omega) (by omega) (by omega) (by omega) (by omega), obs]
      by_cases c : 0 ≤ z ∧ z ≤ 2
      · rw [if_pos (decide_eq_true c), if_pos c]
        simp (disch := omega) only [iL2, xle]
        by_cases c2 : 2 ≤ z
        · rw [if_pos c2, if_pos c2, hS.i105, obs, q56, y2, xJ hx1 hx2]
          exact hmo z (N 11 0) c.1 c.2 hb.1 (by omega) (fun _ => hb.2)
        · rw [if_neg c2, if_neg c2, xJ hx1 hx2]
          exact hmo z 4 c.1 c.2 (by decide) (by decide) (fun q => by omega)
      · rw [if_neg (fun q => c (of_decide_eq_true q)), if_neg c]; rfl
    have : ∃ r, F_NC_drawn n E S (B + 0) (iI x) (iI z) M = some (r, M) ∧ F_Mo_drawn n E S (B + 105) (iI x) (iI z) M = some (r, setI M (B + 105) 0 (iI 0)) := by
      rw [hcl, hml]
      by_cases c0 : z = 0
      · rw [if_pos c0, if_pos (show 0 ≤ z ∧ z ≤ 2 by omega), if_neg (show ¬ 2 ≤ z by omega)]
        by_cases c : 0 ≤ x ∧ x ≤ 3
        · rw [if_pos c, if_pos (show 0 ≤ x ∧ x ≤ 4 - 1 by omega)]
          have e := (y3 x.toNat (by omega)).1
          rw [show ((x.toNat : Nat) : Int) = x by omega] at e
          rw [show (4 * z + x).toNat = x.toNat by omega, e]
          exact ⟨_, rfl, rfl⟩
        · rw [if_neg c, if_neg (show ¬ (0 ≤ x ∧ x ≤ 4 - 1) by omega)]; exact ⟨_, rfl, rfl⟩
      rw [if_neg c0]
      by_cases c1 : z = 1
      · rw [if_pos c1, if_pos (show 0 ≤ z ∧ z ≤ 2 by omega), if_neg (show ¬ 2 ≤ z by omega)]
        by_cases c : 0 ≤ x ∧ x ≤ 3
        · rw [if_pos c, if_pos (show 0 ≤ x ∧ x ≤ 4 - 1 by omega)]
          have e := (y3 x.toNat (by omega)).2
          rw [show (4 * z + x).toNat = 4 + x.toNat by omega, e]
          exact ⟨_, rfl, rfl⟩
        · rw [if_neg c, if_neg (show ¬ (0 ≤ x ∧ x ≤ 4 - 1) by omega)]; exact ⟨_, rfl, rfl⟩
      rw [if_neg c1]
      by_cases c2 : z = 2
      · rw [if_pos c2, if_pos (show 0 ≤ z ∧ z ≤ 2 by omega), if_pos (show 2 ≤ z by omega)]
        by_cases c : 0 ≤ x ∧ x ≤ N 11 0 - 1
        · rw [if_pos c, if_pos c]
          have e := y4 x.toNat (by omega)
          rw [show (4 * z + x).toNat = 8 + x.toNat by omega, e]
          exact ⟨_, rfl, rfl⟩
        · rw [if_neg c, if_neg c]; exact ⟨_, rfl, rfl⟩
      rw [if_neg c2, if_neg (show ¬ (0 ≤ z ∧ z ≤ 2) by omega)]
      exact ⟨_, rfl, rfl⟩
    obtain ⟨r, e1, e2⟩ := this
    exact Ag1.same h r e1 e2
end
