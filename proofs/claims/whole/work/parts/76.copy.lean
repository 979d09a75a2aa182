/-! COPIES of nights -/
def cpyM (M : zH) (s d L : Nat) : zH := (fun q j => if q = d ∧ j < L then mI M s j else mI M q j, mJ M, mR M)
theorem mI_cpy {M : zH} {s d L q j : Nat} : mI (cpyM M s d L) q j = if q = d ∧ j < L then mI M s j else mI M q j := rfl
theorem pz_cpy {S : zS} {M : zH} {s d L : Nat} (hs : sK S s = 12) (hd : sK S d = 12) (hns : sN S s = L) (hnd : sN S d = L) (hL : L ≤ 100000) : zcpy S M s 0 d 0 (nI L) = some (cpyM M s d L) := by
  unfold zcpy
  have e1 : (0 : Int32).toNatClampNeg = 0 := by decide
  have e2 : (nI L).toNatClampNeg = L := nI_clamp (by omega)
  rw [if_pos ⟨hs, hd, by decide, by decide, nI_pos (by omega), by rw [e1, e2, hns]; omega, by rw [e1, e2, hnd]; omega⟩, e1, e2]
  unfold cpyM
  congr 2
  funext q j
  by_cases h : q = d
  · subst h
    rw [if_pos rfl]
    unfold va_cpy
    by_cases h2 : j < L
    · rw [if_pos ⟨by omega, by omega⟩, if_pos ⟨rfl, h2⟩]
      congr 1
      omega
    · rw [if_neg (fun z => h2 (by omega)), if_neg (fun z => h2 z.2)]
  · rw [if_neg h, if_neg (fun z => h z.1)]
theorem zAg.cpy {X : Nat → Nat → Prop} {M M1 : zH} {s d L : Nat} (h1 : zAg X M M1) (hx : ∀ j, j < L → X d j) : zAg X M (cpyM M1 s d L) := fun b j h => by
  refine ⟨?_, (h1 b j h).2.1, (h1 b j h).2.2⟩
  rw [mI_cpy, if_neg (fun q => h (by rw [q.1]; exact hx j q.2))]
  exact (h1 b j h).1
section
variable {n : Nat} {E : zE} {S : zS} {M : zH} {a b : Nat} {N : Nt}
def NiP (M : zH) (a : Nat) (N : Nt) (P : Nat → Nat → Prop) : Prop := ∀ c, c < 10 → ∀ k, k < nln c → P c k → mI M (a + 1 + c) k = iI (N c k)
theorem NiP.cpy {P : Nat → Nat → Prop} (h : NiP M a N P) (hb : NiR M b N) (c : Nat) (hc : c < 10) : NiP (cpyM M (b + 1 + c) (a + 1 + c) (nln c)) a N (fun c' k' => P c' k' ∨ c' = c) := by
  intro c' hc' k hk hP
  rw [mI_cpy]
  by_cases q : c' = c
  · subst q
    rw [if_pos ⟨rfl, hk⟩]
    exact hb.1 c' hc k hk
  · rw [if_neg (fun z => q (by omega))]
    exact h c' hc' k hk (hP.resolve_right q)
/-- the cells of a night -/
def nCells (a : Nat) : Nat → Nat → Prop := fun q _ => a ≤ q ∧ q < a + 12
theorem NiS.len (hS : NiS S a) (c : Nat) (hc : c < 10) (h1 : c ≠ 1) : zlen S 12 (a + 1 + c) = some (nI (nln c)) := by
  have e : nkd c = 12 := by simp [nkd, h1, show c ≠ 10 by omega]
  exact pz_len ((hS.2 c (by omega)).2.1.trans e) (hS.2 c (by omega)).2.2
theorem NiS.cp (hS : NiS S a) (hT : NiS S b) {M : zH} (c : Nat) (hc : c < 10) (h1 : c ≠ 1) : zcpy S M (b + 1 + c) 0 (a + 1 + c) 0 (nI (nln c)) = some (cpyM M (b + 1 + c) (a + 1 + c) (nln c)) := by
  have e : nkd c = 12 := by simp [nkd, h1, show c ≠ 10 by omega]
  have hL : nln c ≤ 100000 := by unfold nln; split <;> omega
  exact pz_cpy ((hT.2 c (by omega)).2.1.trans e) ((hS.2 c (by omega)).2.1.trans e) (hT.2 c (by omega)).2.2 (hS.2 c (by omega)).2.2 hL
theorem vp_nar_bool {x : Int} (h : x = 0 ∨ x = 1) : vp_nar .boolean (iI x) = iI x := by rcases h with rfl | rfl <;> rfl
set_option maxHeartbeats 1000000 in
/-- a becomes as b -/
theorem s_copyFrom (hS : NiS S a) (hT : NiS S b) (hR : NiR M b N) (hN : NdOK N) (hab : a + 12 ≤ b ∨ b + 12 ≤ a) (hn : 100 ≤ n) (hlaw : ∀ j, j < 6 → ∀ t, mR M (b + 11) j = some t → sK S t = 9) :
    ∃ M', F_Ni_copyFrom n E S a b M = some M' ∧ NiR M' a N ∧ (∀ j, j < 6 → mR M' (a + 11) j = mR M (b + 11) j) ∧ zAg (nCells a) M M' := by
  have hx : ∀ q j, b ≤ q → q < b + 12 → ¬ nCells a q j := fun q j h1 h2 h3 => by have := h3.1; have := h3.2; omega
  have hxa : ∀ c, c < 11 → ∀ j, nCells a (a + 1 + c) j := fun c hc j => ⟨by omega, by omega⟩
  have P0 : NiP M a N (fun _ _ => False) := fun _ _ _ _ h => h.elim
  have A0 : zAg (nCells a) M M := zAg.rfl'
  have A1 := A0.cpy (s := b + 1 + 0) (d := a + 1 + 0) (L := nln 0) (fun j _ => hxa 0 (by decide) j)
  have P1 := P0.cpy hR 0 (by decide)
  have A2 := A1.cpy (s := b + 1 + 2) (d := a + 1 + 2) (L := nln 2) (fun j _ => hxa 2 (by decide) j)
  have P2 := P1.cpy (hR.ag A1 hx) 2 (by decide)
  have A3 := A2.cpy (s := b + 1 + 3) (d := a + 1 + 3) (L := nln 3) (fun j _ => hxa 3 (by decide) j)
  have P3 := P2.cpy (hR.ag A2 hx) 3 (by decide)
  have A4 := A3.cpy (s := b + 1 + 4) (d := a + 1 + 4) (L := nln 4) (fun j _ => hxa 4 (by decide) j)
  have P4 := P3.cpy (hR.ag A3 hx) 4 (by decide)
  have A5 := A4.cpy (s := b + 1 + 5) (d := a + 1 + 5) (L := nln 5) (fun j _ => hxa 5 (by decide) j)
  have P5 := P4.cpy (hR.ag A4 hx) 5 (by decide)
  have A6 := A5.cpy (s := b + 1 + 6) (d := a + 1 + 6) (L := nln 6) (fun j _ => hxa 6 (by decide) j)
  have P6 := P5.cpy (hR.ag A5 hx) 6 (by decide)
  have A7 := A6.cpy (s := b + 1 + 7) (d := a + 1 + 7) (L := nln 7) (fun j _ => hxa 7 (by decide) j)
  have P7 := P6.cpy (hR.ag A6 hx) 7 (by decide)
  have A8 := A7.cpy (s := b + 1 + 8) (d := a + 1 + 8) (L := nln 8) (fun j _ => hxa 8 (by decide) j)
  have P8 := P7.cpy (hR.ag A7 hx) 8 (by decide)
  have A9 := A8.cpy (s := b + 1 + 9) (d := a + 1 + 9) (L := nln 9) (fun j _ => hxa 9 (by decide) j)
  have P9 := P8.cpy (hR.ag A8 hx) 9 (by decide)
  unfold F_Ni_copyFrom
  simp only [hT.g0, hT.g2, hT.g3, hT.g4, hT.g5, hT.g6, hT.g7, hT.g8, hT.g9, hS.g0, hS.g2, hS.g3, hS.g4, hS.g5, hS.g6, hS.g7, hS.g8, hS.g9, Option.bind_some, hS.len 0 (by decide) (by decide), hS.len 2 (by decide) (by decide), hS.len 3 (by decide) (by decide), hS.len 4 (by decide) (by decide), hS.len 5 (by decide) (by decide), hS.len 6 (by decide) (by decide), hS.len 7 (by decide) (by decide), hS.len 8 (by decide) (by decide), hS.len 9 (by decide) (by decide),
    hS.cp hT 0 (by decide) (by decide), hS.cp hT 2 (by decide) (by decide), hS.cp hT 3 (by decide) (by decide), hS.cp hT 4 (by decide) (by decide), hS.cp hT 5 (by decide) (by decide), hS.cp hT 6 (by decide) (by decide), hS.cp hT 7 (by decide) (by decide), hS.cp hT 8 (by decide) (by decide), hS.cp hT 9 (by decide) (by decide)]
  generalize cpyM _ (b + 1 + 9) (a + 1 + 9) (nln 9) = M9 at A9 P9 ⊢
  -- the blocked ones
  unfold F_Ni_copyFrom_b164
  obtain ⟨s', m, ⟨M1, hs', hP1, hB1, hA1⟩, e⟩ := zfix_inv (F := fun r164 s => F_Ni_copyFrom_L164 n E S r164 s.1 s.2.1 s.2.2.1 s.2.2.2) (fun i s => ∃ M1, s = (a, b, iI (i : Int), M1) ∧ NiP M1 a N (fun c k => c ≠ 1) ∧ (∀ k, k < i → mI M1 (a + 2) k = iI (N 1 k)) ∧ zAg (nCells a) M M1) 32 (fun i hi s hI => by
    obtain ⟨M1, rfl, hP1, hB1, hA1⟩ := hI
    have hbl := hN.blk (k := i) hi
    have hRb := hR.ag hA1 hx
    refine ⟨(a, b, iI ((i + 1 : Nat) : Int), setI M1 (a + 2) i (iI (N 1 i))), ⟨_, rfl, ?_, ?_, hA1.setI (hxa 1 (by decide) i)⟩, fun rec => ?_⟩
    · intro c hc k hk h1
      rw [mI_a (by omega)]
      exact hP1 c hc k hk h1
    · intro k hk
      by_cases q : k = i
      · subst q; exact mI_s
      · rw [mI_i q]; exact hB1 k (by omega)
    · show F_Ni_copyFrom_L164 n E S rec a b (iI i) M1 = _
      unfold F_Ni_copyFrom_L164
      simp (disch := omega) only [iL32, iL1, xle, if_neg, hS.g1, hT.g1, Option.bind_some, hT.r1 hRb, hS.w1, iI_add]
      rw [show ((i : Int)).toNat = i from rfl, vp_nar_bool hbl]
      rfl) n 0 (a, b, 0, M9) (by omega) (by omega) ⟨M9, rfl, fun c hc k hk h1 => P9 c hc k hk (by
        have : c = 0 ∨ c = 2 ∨ c = 3 ∨ c = 4 ∨ c = 5 ∨ c = 6 ∨ c = 7 ∨ c = 8 ∨ c = 9 := by omega
        rcases this with h | h | h | h | h | h | h | h | h <;> simp [h]), fun k hk => by omega, A9⟩
  rw [e, hs']
  show ∃ M', F_Ni_copyFrom_L164 n E S _ a b (iI (32 : Nat)) M1 = some M' ∧ _
  unfold F_Ni_copyFrom_L164
  rw [iL32, if_pos (by simp (disch := omega) only [xle]; omega)]
  -- the laws
  have hg10 := hS.2 10 (by decide)
  have ht10 := hT.2 10 (by decide)
  unfold F_Ni_copyFrom_b190
  obtain ⟨s2, m2, ⟨M2, hs2, hP2, hL2, hA2⟩, e2⟩ := zfix_inv (F := fun r190 s => F_Ni_copyFrom_L190 n E S r190 s.1 s.2.1 s.2.2.1 s.2.2.2) (fun i s => ∃ M2, s = (a, b, iI (i : Int), M2) ∧ NiP M2 a N (fun _ _ => True) ∧ (∀ j, j < i → mR M2 (a + 11) j = mR M (b + 11) j) ∧ zAg (nCells a) M M2) 6 (fun i hi s hI => by
    obtain ⟨M2, rfl, hP2, hL2, hA2⟩ := hI
    have hrb : mR M2 (b + 11) i = mR M (b + 11) i := (hA2 (b + 11) i (hx _ _ (by omega) (by omega))).2.2
    refine ⟨(a, b, iI ((i + 1 : Nat) : Int), setR M2 (a + 11) i (mR M (b + 11) i)), ⟨_, rfl, hP2, ?_, hA2.setR (hxa 10 (by decide) i)⟩, fun rec => ?_⟩
    · intro j hj
      rw [mR_ite]
      by_cases q : j = i
      · rw [if_pos ⟨rfl, q⟩, q]
      · rw [if_neg (fun z => q z.2)]; exact hL2 j (by omega)
    · show F_Ni_copyFrom_L190 n E S rec a b (iI i) M2 = _
      unfold F_Ni_copyFrom_L190
      simp (disch := omega) only [iL6, iL1, xle, if_neg, hS.g10, hT.g10, Option.bind_some, iI_add]
      rw [pi_ldR (c := 16) (a := b + 1 + 10) (L := 6) ht10.2.1 ht10.2.2 (by omega) (by omega) (by decide), Option.bind_some]
      have hst : zstQ S M2 (a + 1 + 10) (iI i) (mR M2 (b + 1 + 10) ((i : Int)).toNat) = some (setR M2 (a + 11) i (mR M (b + 11) i)) := by
        rw [show ((i : Int)).toNat = i from rfl, show b + 1 + 10 = b + 11 by omega, show a + 1 + 10 = a + 11 by omega, hrb]
        have hk11 : sK S (a + 11) = 16 := hg10.2.1
        have hn11 : sN S (a + 11) = 6 := hg10.2.2
        have hin : ¬ (iI (i : Int) < 0 ∨ sN S (a + 11) ≤ (iI (i : Int)).toNatClampNeg) := by rw [hn11]; exact pi_ix (by omega) (by omega) (by decide)
        have hcl : (iI (i : Int)).toNatClampNeg = i := by rw [iI_clamp (by omega) (by omega)]; rfl
        cases hm : mR M (b + 11) i with
        | none =>
          show (if sK S (a + 11) = 16 ∧ _ then _ else _) = _
          rw [if_pos ⟨hk11, hin⟩, hcl]
        | some t =>
          show zstR S M2 16 9 (a + 11) (iI i) t = _
          unfold zstR
          rw [if_pos ⟨hk11, hlaw i hi t hm, hin⟩, hcl]
      rw [hst]
      rfl) n 0 (a, b, 0, M1) (by omega) (by omega) ⟨M1, rfl, fun c hc k hk _ => by
        by_cases q : c = 1
        · subst q; exact hB1 k hk
        · exact hP1 c hc k hk q, fun j hj => by omega, hA1⟩
  rw [e2, hs2]
  show ∃ M', F_Ni_copyFrom_L190 n E S _ a b (iI (6 : Nat)) M2 = some M' ∧ _
  have hRb := hR.ag hA2 hx
  have B1 := hA2.setI (v := iI (N 11 0)) (show nCells a a 11 from ⟨by omega, by omega⟩)
  have B2 := B1.setI (v := iI (N 12 0)) (show nCells a a 12 from ⟨by omega, by omega⟩)
  have B3 := B2.setI (v := iI (N 13 0)) (show nCells a a 13 from ⟨by omega, by omega⟩)
  have B4 := B3.setI (v := iI (N 14 0)) (show nCells a a 14 from ⟨by omega, by omega⟩)
  refine ⟨setI (setI (setI (setI M2 a 11 (iI (N 11 0))) a 12 (iI (N 12 0))) a 13 (iI (N 13 0))) a 14 (iI (N 14 0)), ?_, ⟨fun c hc k hk => ?_, fun c h1 h2 => ?_⟩, fun j hj => hL2 j hj, B4⟩
  · unfold F_Ni_copyFrom_L190
    simp (disch := omega) only [iL6, xle, if_pos, hT.i11 hRb, hS.p11, Option.bind_some, hT.i12 (hR.ag B1 hx), hS.p12, hT.i13 (hR.ag B2 hx), hS.p13, hT.i14 (hR.ag B3 hx), hS.p14]
  · rw [mI_a (by omega), mI_a (by omega), mI_a (by omega), mI_a (by omega)]
    exact hP2 c hc k hk trivial
  · have : c = 11 ∨ c = 12 ∨ c = 13 ∨ c = 14 := by omega
    rcases this with rfl | rfl | rfl | rfl <;> simp [mI_ite]
end
