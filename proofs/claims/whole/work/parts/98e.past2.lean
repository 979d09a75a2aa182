/-! THE PAST of the model -/
theorem RwN.snp {R : Nat → Int32} {N : Nt} (h : RwN R N) {k : Nat} (hk : k < 50) : R (4 + k) = iI (snap N k) := by
  unfold snap
  by_cases c1 : k < 4
  · rw [if_pos c1]; exact (h.2.1 k c1).1
  rw [if_neg c1]
  by_cases c2 : k < 8
  · rw [if_pos c2, show 4 + k = 8 + (k - 4) by omega]; exact (h.2.1 (k - 4) (by omega)).2.1
  rw [if_neg c2]
  by_cases c3 : k < 40
  · rw [if_pos c3, show 4 + k = 12 + (k - 8) by omega]; exact h.2.2.1 (k - 8) (by omega)
  rw [if_neg c3]
  by_cases c4 : k < 44
  · rw [if_pos c4, show 4 + k = 44 + (k - 40) by omega]; exact (h.2.1 (k - 40) (by omega)).2.2
  rw [if_neg c4]
  by_cases c5 : k < 47
  · rw [if_pos c5, show 4 + k = 48 + (k - 44) by omega]; exact (h.2.2.2.1 (k - 44) (by omega)).1
  rw [if_neg c5, show 4 + k = 51 + (k - 47) by omega]; exact (h.2.2.2.1 (k - 47) (by omega)).2.1
/-- what a snapshot tells -/
theorem snap_9 {N : Nt} {k : Nat} (hk : k < 4) : snap N k = N 9 k := if_pos hk
theorem snap_2 {N : Nt} {k : Nat} (hk : k < 4) : snap N (4 + k) = N 2 k := by
  unfold snap; rw [if_neg (by omega), if_pos (by omega)]; congr 1; omega
theorem snap_0 {N : Nt} {k : Nat} (hk : k < 32) : snap N (8 + k) = N 0 k := by
  unfold snap; rw [if_neg (by omega), if_neg (by omega), if_pos (by omega)]; congr 1; omega
theorem snap_1 {N : Nt} {k : Nat} (hk : k < 4) : snap N (40 + k) = bmask N k := by
  unfold snap; rw [if_neg (by omega), if_neg (by omega), if_neg (by omega), if_pos (by omega)]; congr 1; omega
theorem snap_4 {N : Nt} {k : Nat} (hk : k < 3) : snap N (44 + k) = N 4 k := by
  unfold snap; rw [if_neg (by omega), if_neg (by omega), if_neg (by omega), if_neg (by omega), if_pos (by omega)]; congr 1; omega
theorem snap_5 {N : Nt} {k : Nat} (hk : k < 3) : snap N (47 + k) = N 5 k := by
  unfold snap; rw [if_neg (by omega), if_neg (by omega), if_neg (by omega), if_neg (by omega), if_neg (by omega)]; congr 1; omega
/-- alike in what no snapshot keeps -/
def rsEq (N N' : Nt) : Prop := (∀ k, k < 3 → N' 3 k = N 3 k) ∧ (∀ k, k < 8 → N' 6 k = N 6 k) ∧ (∀ k, k < 6 → N' 7 k = N 7 k) ∧ (∀ k, k < 6 → N' 8 k = N 8 k) ∧ N' 11 0 = N 11 0 ∧ N' 12 0 = N 12 0 ∧ N' 13 0 = N 13 0 ∧ N' 14 0 = N 14 0
theorem rsEq.rfl' {N : Nt} : rsEq N N := ⟨fun _ _ => rfl, fun _ _ => rfl, fun _ _ => rfl, fun _ _ => rfl, rfl, rfl, rfl, rfl⟩
theorem rsEq.trans {N N1 N2 : Nt} (h : rsEq N N1) (q : rsEq N1 N2) : rsEq N N2 := ⟨fun k hk => (q.1 k hk).trans (h.1 k hk), fun k hk => (q.2.1 k hk).trans (h.2.1 k hk), fun k hk => (q.2.2.1 k hk).trans (h.2.2.1 k hk), fun k hk => (q.2.2.2.1 k hk).trans (h.2.2.2.1 k hk), q.2.2.2.2.1.trans h.2.2.2.2.1, q.2.2.2.2.2.1.trans h.2.2.2.2.2.1, q.2.2.2.2.2.2.1.trans h.2.2.2.2.2.2.1, q.2.2.2.2.2.2.2.trans h.2.2.2.2.2.2.2⟩
theorem RwN.put {R R' : Nat → Int32} {N N' : Nt} (h : RwN R N) (h1 : ∀ i, i < 80 → (i < 4 ∨ 54 ≤ i) → R' i = R i) (h2 : ∀ k, k < 50 → R' (4 + k) = iI (snap N' k)) (e : rsEq N N') : RwN R' N' := by
  obtain ⟨e3, e6, e7, e8, e11, e12, e13, e14⟩ := e
  refine ⟨⟨?_, ?_, ?_, ?_⟩, fun k hk => ⟨?_, ?_, ?_⟩, fun k hk => ?_, fun k hk => ⟨?_, ?_, ?_⟩, fun k hk => ?_, fun k hk => ⟨?_, ?_⟩⟩
  · rw [h1 _ (by omega) (by omega), e11]; exact h.1.1
  · rw [h1 _ (by omega) (by omega), e12]; exact h.1.2.1
  · rw [h1 _ (by omega) (by omega), e13]; exact h.1.2.2.1
  · rw [h1 _ (by omega) (by omega), e14]; exact h.1.2.2.2
  · rw [h2 k (by omega), snap_9 hk]
  · rw [show 8 + k = 4 + (4 + k) by omega, h2 _ (by omega), snap_2 hk]
  · rw [show 44 + k = 4 + (40 + k) by omega, h2 _ (by omega), snap_1 hk]
  · rw [show 12 + k = 4 + (8 + k) by omega, h2 _ (by omega), snap_0 hk]
  · rw [show 48 + k = 4 + (44 + k) by omega, h2 _ (by omega), snap_4 hk]
  · rw [show 51 + k = 4 + (47 + k) by omega, h2 _ (by omega), snap_5 hk]
  · rw [h1 _ (by omega) (by omega), e3 k hk]; exact (h.2.2.2.1 k hk).2.2
  · rw [h1 _ (by omega) (by omega), e6 k hk]; exact h.2.2.2.2.1 k hk
  · rw [h1 _ (by omega) (by omega), e7 k hk]; exact (h.2.2.2.2.2 k hk).1
  · rw [h1 _ (by omega) (by omega), e8 k hk]; exact (h.2.2.2.2.2 k hk).2
section
variable {n : Nat} {E : zE} {S : zS} {M : zH} {B : Nat} {N : Nt} {Ls : Nat → Lw}
theorem s_keepAll (hS : ShOK S B) (hn : 600 ≤ n) {k : Nat} (hk : k < 18) : ∃ M', F_Mo_keepAll n E S (B + 105) (iI (k : Int)) M = some M' ∧ (∀ j, j < 50 → mI M' (B + 110) (50 * k + j) = mI M (B + 107) (4 + j)) ∧ zAg (fun b j => b = B + 110 ∧ 50 * k ≤ j ∧ j < 50 * k + 50) M M' := by
  unfold F_Mo_keepAll F_Mo_keepAll_b2
  obtain ⟨s', m, ⟨M1, hs', h1, hA1⟩, e⟩ := zfix_inv (F := fun r2 s => F_Mo_keepAll_L2 n E S r2 s.1 s.2.1 s.2.2.1 s.2.2.2) (fun i s => ∃ M1, s = (B + 105, iI (k : Int), iI (i : Int), M1) ∧ (∀ j, j < i → mI M1 (B + 110) (50 * k + j) = mI M (B + 107) (4 + j)) ∧ zAg (fun b j => b = B + 110 ∧ 50 * k ≤ j ∧ j < 50 * k + 50) M M1) 50 (fun i hi s hI => by
    obtain ⟨M1, rfl, h1, hA1⟩ := hI
    refine ⟨(B + 105, iI (k : Int), iI ((i + 1 : Nat) : Int), setI M1 (B + 110) (50 * k + i) (mI M (B + 107) (4 + i))), ⟨_, rfl, fun j hj => ?_, hA1.setI ⟨rfl, by omega, by omega⟩⟩, fun rec => ?_⟩
    · rw [mI_ite]
      by_cases c : j = i
      · rw [if_pos ⟨rfl, by omega⟩, c]
      · rw [if_neg (fun q => c (by omega)), h1 j (by omega)]
    · show F_Mo_keepAll_L2 n E S rec (B + 105) (iI (k : Int)) (iI (i : Int)) M1 = _
      unfold F_Mo_keepAll_L2
      rw [if_neg (by rw [iL50, xle (by omega) (by omega) (by omega) (by omega)]; omega), hS.g105_6, obs, hS.g105_3, obs, iL4, iI_add, hS.r107 (by omega) (by omega), obs, iL50, iI_mul, iI_add, hS.w110 (by omega) (by omega), obs, iL1, iI_add, show (50 * (k : Int) + (i : Int)).toNat = 50 * k + i by omega, show (4 + (i : Int)).toNat = 4 + i by omega, (hA1 _ _ (fun q => by omega)).1]
      rfl) n 0 (B + 105, iI (k : Int), 0, M) (by omega) (by omega) ⟨M, rfl, fun j hj => by omega, zAg.rfl'⟩
  refine ⟨M1, ?_, h1, hA1⟩
  rw [e, hs']
  show F_Mo_keepAll_L2 n E S _ (B + 105) (iI (k : Int)) (iI ((50 : Nat) : Int)) M1 = _
  unfold F_Mo_keepAll_L2
  rw [if_pos (by decide)]
theorem s_putBack (hS : ShOK S B) (hn : 600 ≤ n) {k : Nat} (hk : k < 18) : ∃ M', F_Mo_putBack n E S (B + 105) (iI (k : Int)) M = some M' ∧ (∀ j, j < 50 → mI M' (B + 107) (4 + j) = mI M (B + 110) (50 * k + j)) ∧ zAg (fun b j => b = B + 107 ∧ 4 ≤ j ∧ j < 54) M M' := by
  unfold F_Mo_putBack F_Mo_putBack_b2
  obtain ⟨s', m, ⟨M1, hs', h1, hA1⟩, e⟩ := zfix_inv (F := fun r2 s => F_Mo_putBack_L2 n E S r2 s.1 s.2.1 s.2.2.1 s.2.2.2) (fun i s => ∃ M1, s = (B + 105, iI (k : Int), iI (i : Int), M1) ∧ (∀ j, j < i → mI M1 (B + 107) (4 + j) = mI M (B + 110) (50 * k + j)) ∧ zAg (fun b j => b = B + 107 ∧ 4 ≤ j ∧ j < 54) M M1) 50 (fun i hi s hI => by
    obtain ⟨M1, rfl, h1, hA1⟩ := hI
    refine ⟨(B + 105, iI (k : Int), iI ((i + 1 : Nat) : Int), setI M1 (B + 107) (4 + i) (mI M (B + 110) (50 * k + i))), ⟨_, rfl, fun j hj => ?_, hA1.setI ⟨rfl, by omega, by omega⟩⟩, fun rec => ?_⟩
    · rw [mI_ite]
      by_cases c : j = i
      · rw [if_pos ⟨rfl, by omega⟩, c]
      · rw [if_neg (fun q => c (by omega)), h1 j (by omega)]
    · show F_Mo_putBack_L2 n E S rec (B + 105) (iI (k : Int)) (iI (i : Int)) M1 = _
      unfold F_Mo_putBack_L2
      rw [if_neg (by rw [iL50, xle (by omega) (by omega) (by omega) (by omega)]; omega), hS.g105_3, obs, hS.g105_6, obs, iL50, iI_mul, iI_add, hS.r110 (by omega) (by omega), obs, iL4, iI_add, hS.w107 (by omega) (by omega), obs, iL1, iI_add, show (50 * (k : Int) + (i : Int)).toNat = 50 * k + i by omega, show (4 + (i : Int)).toNat = 4 + i by omega, (hA1 _ _ (fun q => by omega)).1]
      rfl) n 0 (B + 105, iI (k : Int), 0, M) (by omega) (by omega) ⟨M, rfl, fun j hj => by omega, zAg.rfl'⟩
  refine ⟨M1, ?_, h1, hA1⟩
  rw [e, hs']
  show F_Mo_putBack_L2 n E S _ (B + 105) (iI (k : Int)) (iI ((50 : Nat) : Int)) M1 = _
  unfold F_Mo_putBack_L2
  rw [if_pos (by decide)]
def rmX (B : Nat) : Nat → Nat → Prop := fun b j => (b = B + 105 ∧ j = 8) ∨ (b = B + 110 ∧ j < 800) ∨ b = B + 111
theorem rem_b (hS : ShOK S B) (hn : 600 ≤ n) {u : Nat} (hu : u ≤ 15) {D : Nat → Int} {P : Nat → Nt} {d : Int} (hR : RwN (mI M (B + 107)) N) (h8 : mI M (B + 105) 8 = iI (u : Int)) (hr : ∀ i, i < u → PMr M B i (D i) (P i)) :
    ∃ M', F_Mo_remember_b77 n E S (B + 105) (iI d) M = some M' ∧ mI M' (B + 105) 8 = iI ((u + 1 : Nat) : Int) ∧ (∀ i, i < u → PMr M' B i (D i) (P i)) ∧ PMr M' B u d N ∧ zAg (rmX B) M M' := by
  obtain ⟨M1, e1, h1, hA1⟩ := s_keepAll (n := n) (E := E) (M := M) (k := u) hS hn (by omega)
  have e8 : mI M1 (B + 105) 8 = iI (u : Int) := by rw [(hA1 _ _ (fun q => by omega)).1]; exact h8
  refine ⟨setI (setI M1 (B + 111) u (iI d)) (B + 105) 8 (iI ((u + 1 : Nat) : Int)), ?_, by rw [mI_s], fun i hi => ⟨?_, fun k hk => ?_⟩, ⟨?_, fun k hk => ?_⟩, ?_⟩
  · unfold F_Mo_remember_b77
    rw [hS.i105, obs, h8, e1, obs, hS.g105_7, obs, hS.i105, obs, e8, hS.w111 (by omega) (by omega), obs, hS.i105, obs, mI_a (by omega), e8, iL1, iI_add, hS.p105, obs, Int.toNat_natCast]
    rfl
  · rw [mI_a (by omega), mI_i (by omega), (hA1 _ _ (fun q => by omega)).1]; exact (hr i hi).1
  · rw [mI_a (by omega), mI_a (by omega), (hA1 _ _ (fun q => by omega)).1]; exact (hr i hi).2 k hk
  · rw [mI_a (by omega), mI_s]
  · rw [mI_a (by omega), mI_a (by omega), h1 k hk]; exact hR.snp hk
  · refine ((hA1.mono (fun b j q => ?_)).setI ?_).setI ?_
    · right; left; exact ⟨q.1, by omega⟩
    · right; right; rfl
    · left; exact ⟨rfl, rfl⟩
theorem s_remember (hS : ShOK S B) (hn : 1000 ≤ n) {T : Pst} (hP : PM M B T) (hu : pU T ≤ 16) (hR : RwN (mI M (B + 107)) N) {d a b : Int} {g : Nat → Int} :
    ∃ M', F_Mo_remember n E S (B + 105) (iI d) M = some M' ∧ PM M' B (psh T d a b g N) ∧ zAg (rmX B) M M' := by
  unfold F_Mo_remember
  rw [hS.i105, obs, hP.1, iL16]
  have fin : ∀ M' : zH, mI M' (B + 105) 8 = iI ((pAt T + 1 : Nat) : Int) → (∀ i, i < pAt T → PMr M' B i (pD T (i + pSh T)) (pP T (i + pSh T))) → PMr M' B (pAt T) d N → PM M' B (psh T d a b g N) := fun M' h1 h2 h3 => by
    refine ⟨h1, fun i hi => ?_⟩
    have hi' : i < pAt T + 1 := hi
    show PMr M' B i (if i = pAt T then d else pD T (i + pSh T)) (if i = pAt T then N else pP T (i + pSh T))
    by_cases c : i = pAt T
    · simp only [if_pos c]; rw [c]; exact h3
    · simp only [if_neg c]; exact h2 i (by omega)
  by_cases c : pU T < 16
  · have ea : pAt T = pU T := if_pos c
    have es : pSh T = 0 := if_pos c
    rw [if_neg (ceqF (by omega) (by omega) (by omega) (by omega) (by omega))]
    obtain ⟨M', e, h1, h2, h3, h4⟩ := rem_b (n := n) (E := E) (d := d) hS (by omega) (u := pU T) (by omega) hR hP.1 hP.2
    rw [ea, es] at fin
    exact ⟨M', e, fin M' h1 h2 h3, h4⟩
  · have ea : pAt T = 15 := if_neg c
    have es : pSh T = 1 := if_neg c
    have hu16 : pU T = 16 := by omega
    rw [if_pos (ceqT (by omega))]
    unfold F_Mo_remember_b11
    obtain ⟨s', m, ⟨M1, hs', h1, hA1⟩, e⟩ := zfix_inv (F := fun r2 s => F_Mo_remember_L11 n E S r2 s.1 s.2.1 s.2.2.1 s.2.2.2) (fun i s => ∃ M1, s = (B + 105, iI d, iI (i : Int), M1) ∧ (∀ j, mI M1 (B + 110) j = if j < i then mI M (B + 110) (j + 50) else mI M (B + 110) j) ∧ zAg (fun b j => b = B + 110 ∧ j < 800) M M1) 750 (fun i hi s hI => by
      obtain ⟨M1, rfl, h1, hA1⟩ := hI
      refine ⟨(B + 105, iI d, iI ((i + 1 : Nat) : Int), setI M1 (B + 110) i (mI M (B + 110) (i + 50))), ⟨_, rfl, fun j => ?_, hA1.setI ⟨rfl, by omega⟩⟩, fun rec => ?_⟩
      · rw [mI_ite]
        by_cases c : j = i
        · rw [if_pos ⟨rfl, c⟩, if_pos (by omega), c]
        · rw [if_neg (fun q => c q.2), h1 j]
          by_cases c2 : j < i
          · rw [if_pos c2, if_pos (by omega)]
          · rw [if_neg c2, if_neg (by omega)]
      · show F_Mo_remember_L11 n E S rec (B + 105) (iI d) (iI (i : Int)) M1 = _
        unfold F_Mo_remember_L11
        rw [if_neg (by rw [iL750, xle (by omega) (by omega) (by omega) (by omega)]; omega), hS.g105_6, obs, iL50, iI_add, hS.r110 (by omega) (by omega), obs, hS.w110 (by omega) (by omega), obs, iL1, iI_add, Int.toNat_natCast, show ((i : Int) + 50).toNat = i + 50 by omega, h1, if_neg (by omega)]
        rfl) n 0 (B + 105, iI d, 0, M) (by omega) (by omega) ⟨M, rfl, fun j => by rw [if_neg (by omega)], zAg.rfl'⟩
    rw [e, hs']
    show ∃ M', F_Mo_remember_L11 n E S _ (B + 105) (iI d) (iI ((750 : Nat) : Int)) M1 = _ ∧ _
    unfold F_Mo_remember_L11
    rw [if_pos (by decide)]
    unfold F_Mo_remember_b41
    obtain ⟨s2, m2, ⟨M2, hs2, h2, hA2⟩, e2⟩ := zfix_inv (F := fun r2 s => F_Mo_remember_L41 n E S r2 s.1 s.2.1 s.2.2.1 s.2.2.2) (fun i s => ∃ M2, s = (B + 105, iI d, iI (i : Int), M2) ∧ (∀ j, mI M2 (B + 111) j = if j < i then mI M (B + 111) (j + 1) else mI M (B + 111) j) ∧ zAg (fun b j => b = B + 111) M1 M2) 15 (fun i hi s hI => by
      obtain ⟨M2, rfl, h2, hA2⟩ := hI
      refine ⟨(B + 105, iI d, iI ((i + 1 : Nat) : Int), setI M2 (B + 111) i (mI M (B + 111) (i + 1))), ⟨_, rfl, fun j => ?_, hA2.setI rfl⟩, fun rec => ?_⟩
      · rw [mI_ite]
        by_cases c : j = i
        · rw [if_pos ⟨rfl, c⟩, if_pos (by omega), c]
        · rw [if_neg (fun q => c q.2), h2 j]
          by_cases c2 : j < i
          · rw [if_pos c2, if_pos (by omega)]
          · rw [if_neg c2, if_neg (by omega)]
      · show F_Mo_remember_L41 n E S rec (B + 105) (iI d) (iI (i : Int)) M2 = _
        unfold F_Mo_remember_L41
        rw [if_neg (by rw [iL15, xle (by omega) (by omega) (by omega) (by omega)]; omega), hS.g105_7, obs, iL1, iI_add, hS.r111 (by omega) (by omega), obs, hS.w111 (by omega) (by omega), obs, Int.toNat_natCast, show ((i : Int) + 1).toNat = i + 1 by omega, h2, if_neg (by omega)]
        rfl) n 0 (B + 105, iI d, 0, M1) (by omega) (by omega) ⟨M1, rfl, fun j => by rw [if_neg (by omega), (hA1 _ _ (fun q => by omega)).1], zAg.rfl'⟩
    rw [e2, hs2]
    show ∃ M', F_Mo_remember_L41 n E S _ (B + 105) (iI d) (iI ((15 : Nat) : Int)) M2 = _ ∧ _
    unfold F_Mo_remember_L41
    have e8 : mI M2 (B + 105) 8 = iI 16 := by rw [(hA2 _ _ (by omega)).1, (hA1 _ _ (fun q => by omega)).1, hP.1, hu16]; rfl
    rw [if_pos (by decide), hS.i105, obs, e8, iL1, iI_sub, hS.p105, obs]
    have hA12 : zAg (rmX B) M (setI M2 (B + 105) 8 (iI (16 - 1))) := by
      refine ((hA1.mono (fun b j q => ?_)).trans (hA2.mono (fun b j q => ?_))).setI ?_
      · right; left; exact q
      · right; right; exact q
      · left; exact ⟨rfl, rfl⟩
    have hR' : RwN (mI (setI M2 (B + 105) 8 (iI (16 - 1))) (B + 107)) N := hR.cg (fun i _ => (hA12 _ _ (fun q => by unfold rmX at q; omega)).1)
    have hr : ∀ i, i < 15 → PMr (setI M2 (B + 105) 8 (iI (16 - 1))) B i (pD T (i + 1)) (pP T (i + 1)) := fun i hi => by
      obtain ⟨r1, r2⟩ := hP.2 (i + 1) (by omega)
      refine ⟨?_, fun k hk => ?_⟩
      · rw [mI_a (by omega), h2, if_pos hi]; exact r1
      · rw [mI_a (by omega), (hA2 _ _ (by omega)).1, h1, if_pos (by omega), show 50 * i + k + 50 = 50 * (i + 1) + k by omega]; exact r2 k hk
    obtain ⟨M', e, g1, g2, g3, g4⟩ := rem_b (n := n) (E := E) (d := d) hS (by omega) (u := 15) (by omega) hR' (by rw [mI_s]; rfl) hr
    rw [ea, es] at fin
    exact ⟨M', e, fin M' g1 g2 g3, hA12.trans g4⟩
end
