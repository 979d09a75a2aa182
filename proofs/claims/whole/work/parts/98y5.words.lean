/-! orders: the words, both sides -/
def wO (N : Nt) (Ls : Nat → Lw) (dn la : Int) : Nat → Int := fun i => if i = 0 then N 9 0 else if i = 1 then dn else if i = 2 then la else if i = 3 then zsum (N 4) (N 11 0).toNat else if i < 8 then N 2 (i - 4) else if i < 11 then (if ((i - 8 : Nat) : Int) < N 11 0 then N 4 (i - 8) else -1) else flowV N Ls ((i - 11 : Nat) : Int)
section
variable {n : Nat} {E : zE} {S : zS} {M : zH} {B : Nat} {N : Nt} {Ls : Nat → Lw} {dn la : Int}
theorem lev_b (hN : NdOK N) : 0 ≤ zsum (N 4) (N 11 0).toNat ∧ zsum (N 4) (N 11 0).toNat ≤ 297 := by
  have hb := hN.nb
  have l0 := hN.lev (k := 0) (by omega)
  have l1 := hN.lev (k := 1) (by omega)
  have l2 := hN.lev (k := 2) (by omega)
  have s0 := hN.size (k := 0) (by omega)
  have s1 := hN.size (k := 1) (by omega)
  have s2 := hN.size (k := 2) (by omega)
  have hk : (N 11 0).toNat = 0 ∨ (N 11 0).toNat = 1 ∨ (N 11 0).toNat = 2 ∨ (N 11 0).toNat = 3 := by omega
  rcases hk with q | q | q | q
  · rw [q]; show 0 ≤ (0 : Int) ∧ (0 : Int) ≤ 297; decide
  · rw [q]; show 0 ≤ 0 + N 4 0 ∧ 0 + N 4 0 ≤ 297; omega
  · rw [q]; show 0 ≤ 0 + N 4 0 + N 4 1 ∧ 0 + N 4 0 + N 4 1 ≤ 297; omega
  · rw [q]; show 0 ≤ 0 + N 4 0 + N 4 1 + N 4 2 ∧ 0 + N 4 0 + N 4 1 + N 4 2 ≤ 297; omega
theorem wO_b (hN : NdOK N) (hd : 0 ≤ dn ∧ dn ≤ 1000) (hla : -1 ≤ la ∧ la ≤ 1000) (i : Nat) : -1 ≤ wO N Ls dn la i ∧ wO N Ls dn la i ≤ 2000 := by
  have h0 := hN.hour
  have lb := lev_b hN
  unfold wO
  by_cases c0 : i = 0
  · rw [if_pos c0]; omega
  rw [if_neg c0]
  by_cases c1 : i = 1
  · rw [if_pos c1]; omega
  rw [if_neg c1]
  by_cases c2 : i = 2
  · rw [if_pos c2]; omega
  rw [if_neg c2]
  by_cases c3 : i = 3
  · rw [if_pos c3]; omega
  rw [if_neg c3]
  by_cases c8 : i < 8
  · have := hN.turn (k := i - 4) (by omega)
    rw [if_pos c8]; omega
  rw [if_neg c8]
  by_cases c11 : i < 11
  · have l0 := hN.lev (k := i - 8) (by omega)
    have s0 := hN.size (k := i - 8) (by omega)
    rw [if_pos c11]
    split <;> omega
  · have := flowV_b (Ls := Ls) (f := ((i - 11 : Nat) : Int)) hN
    rw [if_neg c11]; omega
theorem wO_zB (hN : NdOK N) (hd : 0 ≤ dn ∧ dn ≤ 1000) (hla : -1 ≤ la ∧ la ≤ 1000) (i : Nat) : zB (wO N Ls dn la i) := by
  have := wO_b (Ls := Ls) hN hd hla i
  exact ⟨by omega, by omega⟩
theorem wO_4 {r : Nat} (hr : r < 4) : wO N Ls dn la (4 + r) = N 2 r := by
  unfold wO
  rw [if_neg (by omega), if_neg (by omega), if_neg (by omega), if_neg (by omega), if_pos (by omega), show 4 + r - 4 = r by omega]
theorem wO_8 {b : Nat} (hb : b < 3) : wO N Ls dn la (8 + b) = if (b : Int) < N 11 0 then N 4 b else -1 := by
  unfold wO
  rw [if_neg (by omega), if_neg (by omega), if_neg (by omega), if_neg (by omega), if_neg (by omega), if_pos (by omega), show 8 + b - 8 = b by omega]
theorem wO_11 {f : Nat} : wO N Ls dn la (11 + f) = flowV N Ls (f : Int) := by
  unfold wO
  rw [if_neg (by omega), if_neg (by omega), if_neg (by omega), if_neg (by omega), if_neg (by omega), if_neg (by omega), show 11 + f - 11 = f by omega]
def fwX (B : Nat) : Nat → Nat → Prop := fun b _ => b = B + 78 ∨ b = B + 79 ∨ b = B + 84
theorem CN.fw {M' : zH} (h : CN S M B (B + 1) N Ls) (hA : zAg (fwX B) M M') : CN S M' B (B + 1) N Ls := h.ag hA (fun b j q => by unfold fwX at q; omega)
/-- the flows that are named -/
theorem fw_111 (hS : ShOK S B) (hC : CN S M B (B + 1) N Ls) (hn : 1000 ≤ n) {wm : Nat} (hw : wm < 524288) : ∀ (r f fuel : Nat) (M1 : zH), f + r = 8 → r < fuel → zAg (fwX B) M M1 → ∃ M', zfix (fun r111 s => F_Ru_findWords_L111 n E S r111 s.1 s.2.1 s.2.2.1 s.2.2.2.1 s.2.2.2.2) fuel (B + 81, B + 1, iI (wm : Int), iI (f : Int), M1) = some M' ∧ (∀ i, i < 11 + f → mI M' (B + 84) i = mI M1 (B + 84) i) ∧ (∀ i, f ≤ i → i < 8 → wm.testBit (11 + i) = true → mI M' (B + 84) (11 + i) = iI (flowV N Ls (i : Int))) ∧ zAg (fwX B) M1 M' := by
  intro r
  induction r with
  | zero =>
    intro f fuel M1 hr hf hA
    obtain ⟨fuel, rfl⟩ : ∃ f', fuel = f' + 1 := ⟨fuel - 1, by omega⟩
    refine ⟨M1, ?_, fun i _ => rfl, fun i i1 i2 => by omega, zAg.rfl'⟩
    show F_Ru_findWords_L111 n E S _ (B + 81) (B + 1) (iI (wm : Int)) (iI (f : Int)) M1 = _
    unfold F_Ru_findWords_L111
    rw [show (8 : Int32) = iI 8 by decide, if_pos (cleT (by omega) (by omega) (by omega))]
  | succ r ih =>
    intro f fuel M1 hr hf hA
    obtain ⟨fuel, rfl⟩ : ∃ f', fuel = f' + 1 := ⟨fuel - 1, by omega⟩
    have cond : ((iI (wm : Int)) &&& ((1 : Int32) <<< ((11 + iI (f : Int)) &&& (31 : Int32))) = 0) ↔ wm.testBit (11 + f) = false := by
      have e : (iI (wm : Int)) &&& ((1 : Int32) <<< ((11 + iI (f : Int)) &&& (31 : Int32))) = iI ((wm &&& 2 ^ (11 + f) : Nat) : Int) := by
        rw [show (11 : Int32) = iI 11 by decide, iI_add, iL31, iL1, xshl (by omega) (by omega), show (1 : Int) * 2 ^ ((11 : Int) + (f : Int)).toNat = ((2 ^ (11 + f) : Nat) : Int) by rw [Int.one_mul, show ((11 : Int) + (f : Int)).toNat = 11 + f by omega]; exact (Int.natCast_pow 2 (11 + f)).symm, iI_and]
      have le : wm &&& 2 ^ (11 + f) ≤ wm := Nat.and_le_left
      rw [e, ← and_0]
      constructor
      · intro h
        by_cases z : wm &&& 2 ^ (11 + f) = 0
        · exact z
        · exact absurd h (ceqF (y := 0) (by omega) (by omega) (by omega) (by omega) (by omega))
      · intro h; rw [h]; rfl
    cases ht : wm.testBit (11 + f)
    · obtain ⟨M', e, g1, g2, g3⟩ := ih (f + 1) fuel M1 (by omega) (by omega) hA
      refine ⟨M', ?_, fun i hi => g1 i (by omega), fun i i1 i2 i3 => ?_, g3⟩
      · rw [← e]
        show F_Ru_findWords_L111 n E S (zfix (fun r111 s => F_Ru_findWords_L111 n E S r111 s.1 s.2.1 s.2.2.1 s.2.2.2.1 s.2.2.2.2) fuel) (B + 81) (B + 1) (iI (wm : Int)) (iI (f : Int)) M1 = _
        generalize zfix (fun r111 s => F_Ru_findWords_L111 n E S r111 s.1 s.2.1 s.2.2.1 s.2.2.2.1 s.2.2.2.2) fuel = rec
        unfold F_Ru_findWords_L111 F_Ru_findWords_b146
        rw [show (8 : Int32) = iI 8 by decide, if_neg (cleF (by omega) (by omega) (by omega)), if_pos (cond.mpr ht), iL1, iI_add]
        rfl
      · by_cases q : i = f
        · rw [q, ht] at i3; exact absurd i3 (by decide)
        · exact g2 i (by omega) i2 i3
    · obtain ⟨M2, e2, hA2⟩ := s_threadsOn (n := n) (E := E) hS nA1 (hC.fw hA) (by omega) (f := (f : Int)) (by omega) (by omega)
      have hA2' : zAg (fwX B) M1 M2 := hA2.mono (fun b j q => by unfold cScr at q; unfold fwX; omega)
      have hA3 : zAg (fwX B) M2 (setI M2 (B + 84) (11 + f) (iI (flowV N Ls (f : Int)))) := zAg.rfl'.setI (by unfold fwX; omega)
      obtain ⟨M', e, g1, g2, g3⟩ := ih (f + 1) fuel (setI M2 (B + 84) (11 + f) (iI (flowV N Ls (f : Int)))) (by omega) (by omega) ((hA.trans hA2').trans hA3)
      refine ⟨M', ?_, fun i hi => ?_, fun i i1 i2 i3 => ?_, (hA2'.trans hA3).trans g3⟩
      · rw [← e]
        show F_Ru_findWords_L111 n E S (zfix (fun r111 s => F_Ru_findWords_L111 n E S r111 s.1 s.2.1 s.2.2.1 s.2.2.2.1 s.2.2.2.2) fuel) (B + 81) (B + 1) (iI (wm : Int)) (iI (f : Int)) M1 = _
        generalize zfix (fun r111 s => F_Ru_findWords_L111 n E S r111 s.1 s.2.1 s.2.2.1 s.2.2.2.1 s.2.2.2.2) fuel = rec
        unfold F_Ru_findWords_L111 F_Ru_findWords_b146
        rw [show (8 : Int32) = iI 8 by decide, if_neg (cleF (by omega) (by omega) (by omega)), if_neg (fun z => by rw [cond.mp z] at ht; exact absurd ht (by decide)), hS.g81_3, obs, hS.g81_0, obs, hS.ck76, obs, e2, obs, show (11 : Int32) = iI 11 by decide, iI_add, hS.w84 (by omega) (by omega), obs, iL1, iI_add, show ((11 : Int) + (f : Int)).toNat = 11 + f by omega]
        rfl
      · rw [g1 i (by omega), mI_i (by omega), (hA2 _ _ (by unfold cScr; omega)).1]
      · by_cases q : i = f
        · rw [q, g1 _ (by omega), mI_s]
        · exact g2 i (by omega) i2 i3
theorem s_findW (hS : ShOK S B) (hC : CN S M B (B + 1) N Ls) (hn : 1000 ≤ n) (hd : 0 ≤ dn ∧ dn ≤ 1000) (hla : -1 ≤ la ∧ la ≤ 1000) (h4 : mI M (B + 81) 4 = iI dn) (h5 : mI M (B + 81) 5 = iI la) {wm : Nat} (hw : wm < 524288) : ∃ M' w', F_Ru_findWords n E S (B + 81) (B + 1) (iI (wm : Int)) M = some M' ∧ WdR S M' (B + 84) 19 w' ∧ (∀ i, i < 11 ∨ wm.testBit i = true → w' i = wO N Ls dn la i) ∧ zAg (fwX B) M M' := by
  have hI := nA1.ni hS
  have hN := hC.2.1
  have hb := hN.nb
  have hA1 : zAg (fun b j => b = B + 84) M (setI (setI (setI (setI M (B + 84) 0 (iI (N 9 0))) (B + 84) 1 (iI dn)) (B + 84) 2 (iI la)) (B + 84) 3 (iI (zsum (N 4) (N 11 0).toNat))) := (((zAg.rfl'.setI (by rfl)).setI (by rfl)).setI (by rfl)).setI (by rfl)
  have nag : ∀ {M1 : zH}, zAg (fun b _ => b = B + 84) M M1 → NiR M1 (B + 1) N := fun {M1} h => hC.1.ag h (fun b j q1 q2 => by omega)
  have lv3 := s_allLevels (n := n) (E := E) hI (nag ((((zAg.rfl'.setI (by rfl)).setI (by rfl)).setI (by rfl) : zAg (fun b _ => b = B + 84) M (setI (setI (setI M (B + 84) 0 (iI (N 9 0))) (B + 84) 1 (iI dn)) (B + 84) 2 (iI la))))) hN (by omega)
  have c0 : ∀ i, i < 4 → mI (setI (setI (setI (setI M (B + 84) 0 (iI (N 9 0))) (B + 84) 1 (iI dn)) (B + 84) 2 (iI la)) (B + 84) 3 (iI (zsum (N 4) (N 11 0).toNat))) (B + 84) i = iI (wO N Ls dn la i) := fun i hi => by
    have : i = 0 ∨ i = 1 ∨ i = 2 ∨ i = 3 := by omega
    rcases this with rfl | rfl | rfl | rfl
    · rw [mI_i (by decide), mI_i (by decide), mI_i (by decide), mI_s]; rfl
    · rw [mI_i (by decide), mI_i (by decide), mI_s]; rfl
    · rw [mI_i (by decide), mI_s]; rfl
    · rw [mI_s]; rfl
  have start : F_Ru_findWords n E S (B + 81) (B + 1) (iI (wm : Int)) M = F_Ru_findWords_b44 n E S (B + 81, B + 1, iI (wm : Int), iI ((0 : Nat) : Int), setI (setI (setI (setI M (B + 84) 0 (iI (N 9 0))) (B + 84) 1 (iI dn)) (B + 84) 2 (iI la)) (B + 84) 3 (iI (zsum (N 4) (N 11 0).toNat))) := by
    unfold F_Ru_findWords
    rw [hS.g81_3, obs, hI.g9, obs, iL0, hI.r9 hC.1 (by omega) (by decide), obs, hS.w84 (by omega) (by omega), obs, hS.i81, obs, mI_a (by omega), h4, iL1, hS.w84 (by omega) (by omega), obs, hS.i81, obs, mI_a (by omega), mI_a (by omega), h5, show (2 : Int32) = iI 2 by decide, hS.w84 (by omega) (by omega), obs]
    rw [show (0 : Int).toNat = 0 from rfl, show (1 : Int).toNat = 1 from rfl, show (2 : Int).toNat = 2 from rfl, lv3, obs, show (3 : Int32) = iI 3 by decide, hS.w84 (by omega) (by omega), obs, show (3 : Int).toNat = 3 from rfl]
    rfl
  rw [start]
  generalize setI (setI (setI (setI M (B + 84) 0 (iI (N 9 0))) (B + 84) 1 (iI dn)) (B + 84) 2 (iI la)) (B + 84) 3 (iI (zsum (N 4) (N 11 0).toNat)) = M1 at hA1 c0
  unfold F_Ru_findWords_b44
  obtain ⟨s2, m2, ⟨M2, hs2, hA2, c2⟩, e2⟩ := zfix_inv (F := fun r44 s => F_Ru_findWords_L44 n E S r44 s.1 s.2.1 s.2.2.1 s.2.2.2.1 s.2.2.2.2) (fun i s => ∃ M2, s = (B + 81, B + 1, iI (wm : Int), iI (i : Int), M2) ∧ zAg (fun b _ => b = B + 84) M M2 ∧ ∀ k, k < 4 + i → mI M2 (B + 84) k = iI (wO N Ls dn la k)) 4 (fun i hi s hI' => by
    obtain ⟨M2, rfl, hA2, c2⟩ := hI'
    refine ⟨(B + 81, B + 1, iI (wm : Int), iI ((i + 1 : Nat) : Int), setI M2 (B + 84) (4 + i) (iI (N 2 i))), ⟨_, rfl, hA2.setI (by rfl), fun k hk => ?_⟩, fun rec => ?_⟩
    · rw [mI_ite]
      by_cases q : k = 4 + i
      · rw [if_pos ⟨rfl, q⟩, q, wO_4 hi]
      · rw [if_neg (fun z => q z.2)]; exact c2 k (by omega)
    · show F_Ru_findWords_L44 n E S rec (B + 81) (B + 1) (iI (wm : Int)) (iI (i : Int)) M2 = _
      unfold F_Ru_findWords_L44
      rw [show (4 : Int32) = iI 4 by decide, if_neg (cleF (by omega) (by omega) (by omega)), hS.g81_3, obs, hI.g2, obs, hI.r2 (nag hA2) (by omega) (by omega), obs, Int.toNat_natCast, iI_add, hS.w84 (by omega) (by omega), obs, iL1, iI_add, show ((4 : Int) + (i : Int)).toNat = 4 + i by omega]
      rfl) n 0 (B + 81, B + 1, iI (wm : Int), iI ((0 : Nat) : Int), M1) (by omega) (by omega) ⟨M1, rfl, hA1, fun k hk => c0 k (by omega)⟩
  rw [e2, hs2]
  dsimp only
  have e2' : ∀ rec, F_Ru_findWords_L44 n E S rec (B + 81) (B + 1) (iI (wm : Int)) (iI ((4 : Nat) : Int)) M2 = F_Ru_findWords_b71 n E S (B + 81, B + 1, iI (wm : Int), iI ((0 : Nat) : Int), M2) := fun rec => by
    unfold F_Ru_findWords_L44
    rw [if_pos (show (4 : Int32) ≤ iI ((4 : Nat) : Int) by decide)]
    rfl
  rw [e2']
  unfold F_Ru_findWords_b71
  obtain ⟨s3, m3, ⟨M3, hs3, hA3, c3⟩, e3⟩ := zfix_inv (F := fun r71 s => F_Ru_findWords_L71 n E S r71 s.1 s.2.1 s.2.2.1 s.2.2.2.1 s.2.2.2.2) (fun i s => ∃ M2, s = (B + 81, B + 1, iI (wm : Int), iI (i : Int), M2) ∧ zAg (fun b _ => b = B + 84) M M2 ∧ ∀ k, k < 8 + i → mI M2 (B + 84) k = iI (wO N Ls dn la k)) 3 (fun i hi s hI' => by
    obtain ⟨M2, rfl, hA2, c2⟩ := hI'
    refine ⟨(B + 81, B + 1, iI (wm : Int), iI ((i + 1 : Nat) : Int), setI M2 (B + 84) (8 + i) (iI (wO N Ls dn la (8 + i)))), ⟨_, rfl, hA2.setI (by rfl), fun k hk => ?_⟩, fun rec => ?_⟩
    · rw [mI_ite]
      by_cases q : k = 8 + i
      · rw [if_pos ⟨rfl, q⟩, q]
      · rw [if_neg (fun z => q z.2)]; exact c2 k (by omega)
    · show F_Ru_findWords_L71 n E S rec (B + 81) (B + 1) (iI (wm : Int)) (iI (i : Int)) M2 = _
      unfold F_Ru_findWords_L71 F_Ru_findWords_b102
      rw [show (3 : Int32) = iI 3 by decide, if_neg (cleF (by omega) (by omega) (by omega)), hS.g81_3, obs, hI.ck, obs, s_hasBucket hI (nag hA2) hN (zR_of (by omega) (by omega)), obs, wO_8 hi]
      by_cases q : (i : Int) < N 11 0
      · rw [if_pos (decide_eq_true (by omega)), hI.g4, obs, hI.r4 (nag hA2) (by omega) (by omega), obs, Int.toNat_natCast, show (8 : Int32) = iI 8 by decide, iI_add, hS.w84 (by omega) (by omega), obs, iL1, iI_add, show ((8 : Int) + (i : Int)).toNat = 8 + i by omega, if_pos q]
        rfl
      · rw [if_neg (fun z => by have := of_decide_eq_true z; omega), show (8 : Int32) = iI 8 by decide, iI_add, hS.w84 (by omega) (by omega), obs, iL1, iI_add, iI_neg, show ((8 : Int) + (i : Int)).toNat = 8 + i by omega, if_neg q]
        rfl) n 0 (B + 81, B + 1, iI (wm : Int), iI ((0 : Nat) : Int), M2) (by omega) (by omega) ⟨M2, rfl, hA2, fun k hk => c2 k (by omega)⟩
  rw [e3, hs3]
  dsimp only
  have e3' : ∀ rec, F_Ru_findWords_L71 n E S rec (B + 81) (B + 1) (iI (wm : Int)) (iI ((3 : Nat) : Int)) M3 = F_Ru_findWords_b111 n E S (B + 81, B + 1, iI (wm : Int), iI ((0 : Nat) : Int), M3) := fun rec => by
    unfold F_Ru_findWords_L71
    rw [if_pos (show (3 : Int32) ≤ iI ((3 : Nat) : Int) by decide)]
    rfl
  rw [e3']
  have hA3' : zAg (fwX B) M M3 := hA3.mono (fun b j q => by unfold fwX; omega)
  obtain ⟨M4, e4, g1, g2, g3⟩ := fw_111 (n := n) (E := E) hS hC hn hw 8 0 n M3 (by omega) (by omega) hA3'
  refine ⟨M4, fun i => (mI M4 (B + 84) i).toInt, e4, ⟨hS.k 84 (by decide), hS.n 84 (by decide), by decide, fun i hi => ⟨?_, Int32.le_toInt _, Int32.toInt_lt _⟩⟩, fun i hi => ?_, hA3'.trans g3⟩
  · unfold iI; rw [Int32.ofInt_toInt]
  · have wb := wO_b (Ls := Ls) hN hd hla i
    have tI : ∀ x : Int, -1 ≤ x → x ≤ 2000 → (iI x).toInt = x := fun x h1 h2 => by
      unfold iI
      rw [Int32.toInt_ofInt_of_le (by omega) (by omega)]
    by_cases q : i < 11
    · show (mI M4 (B + 84) i).toInt = _
      rw [g1 i (by omega), c3 i (by omega), tI _ wb.1 wb.2]
    · have hb : wm.testBit i = true := hi.resolve_left q
      have i19 : i < 19 := by
        by_cases z : i < 19
        · exact z
        · have : wm < 2 ^ i := Nat.lt_of_lt_of_le hw (show 2 ^ 19 ≤ 2 ^ i from Nat.pow_le_pow_right (by decide) (by omega))
          rw [Nat.testBit_lt_two_pow this] at hb; exact absurd hb (by decide)
      have := g2 (i - 11) (by omega) (by omega) (by rw [show 11 + (i - 11) = i by omega]; exact hb)
      rw [show 11 + (i - 11) = i by omega] at this
      show (mI M4 (B + 84) i).toInt = _
      have e11 := wO_11 (N := N) (Ls := Ls) (dn := dn) (la := la) (f := i - 11)
      rw [show 11 + (i - 11) = i by omega] at e11
      rw [this, ← e11, tI _ wb.1 wb.2]
end
