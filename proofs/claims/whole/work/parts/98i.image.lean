/-! CASES (7): image, back -/
def InvB (S : zS) (M : zH) (B : Nat) : Prop := ShOK S B ∧ B + 136 ≤ sZ S ∧ Now S M B ∧ ImR S M B 0 ∧ ImR S M B 1 ∧ TapeR M B ∧ YearR M B ∧ ConR M B
section
variable {n : Nat} {E : zE} {S : zS} {M M' : zH} {B : Nat} {N N' : Nt} {Ls : Nat → Lw} {X : Nat → Nat → Prop}
theorem ImR.ag2 {k : Nat} (h : ImR S M B k) (hk : k < 2) (hA : zAg X M M') (h38 : ¬ X (B + 38) k) (h109 : ¬ X (B + 109) k) (h108 : ∀ j, 5480 * k ≤ j → j < 5480 * k + 5480 → ¬ X (B + 108) j) (hx : ∀ b j, X b j → b < B + 136 ∧ ¬ (B + iaI k ≤ b ∧ b < B + iaI k + 12)) : ImR S M' B k := by
  rcases h with ⟨h1, h2⟩ | ⟨h1, h2, N, Ls, h3, h4, h5, h6⟩
  · exact Or.inl ⟨by rw [(hA _ _ h38).1]; exact h1, by rw [(hA _ _ h109).1]; exact h2⟩
  · refine Or.inr ⟨by rw [(hA _ _ h38).1]; exact h1, by rw [(hA _ _ h109).1]; exact h2, N, Ls, h3.ag hA hx, h4, h5.cg (fun i hi => (hA _ _ (h108 _ (by omega) (by omega))).1), fun j hj hl => (h6 j hj hl).cg (fun i h1 h2 => (hA _ _ (h108 _ (by omega) (by omega))).1)⟩
theorem CN.copy {a b : Nat} (hC : CN S M B b N Ls) (hR : NiR M' a N) (hr : ∀ j, j < 6 → mR M' (a + 11) j = mR M (b + 11) j) (hA : zAg X M M') (hx : ∀ b j, X b j → b < B + 136) : CN S M' B a N Ls := by
  refine ⟨hR, hC.2.1, fun j hj => ?_⟩
  rw [hr j hj]
  refine ⟨(hC.2.2 j hj).1, fun hl => ?_⟩
  obtain ⟨t, g1, g2, g3⟩ := (hC.2.2 j hj).2 hl
  exact ⟨t, g1, g2, g3.ag hA (fun b j h4 h5 h6 => by have := hx _ _ h6; omega)⟩
theorem ans_acc (hS : ShOK S B) {v : Int} (h0 : 0 ≤ v) (h1 : v ≤ 1000000000) : F_NC_answered n E S (B + 0) (iI v) M = F_NC_accept n E S (B + 0) (iI v) M := by
  unfold F_NC_answered
  rw [if_pos (by rw [iL0, xle (by omega) (by omega) (by omega) (by omega)]; exact h0), hS.ck0, obs, be_]
theorem ans_ref (hS : ShOK S B) {v : Int} (h : isRf v) : F_NC_answered n E S (B + 0) (iI v) M = F_NC_refuse n E S (B + 0) (iI v) M := by
  have hv : v < 0 ∧ -6 ≤ v := by unfold isRf at h; omega
  unfold F_NC_answered
  rw [if_neg (by rw [iL0, xle (by omega) (by omega) (by omega) (by omega)]; omega), hS.ck0, obs, be_]
theorem InvB.tell (h : InvB S M B) (hA : zAg X M M') (hx : ∀ b j, X b j → (b = B + 105 ∧ j = 1) ∨ b = B + 106) : InvB S M' B := by
  obtain ⟨h1, h2, h3, h4, h5, h6, h7, h8⟩ := h
  have e0 : iaI 0 = 14 := rfl
  have e1 : iaI 1 = 26 := rfl
  exact ⟨h1, h2, h3.ag hA (fun b j q => by have := hx _ _ q; omega), h4.ag (by decide) hA (fun q => by have := hx _ _ q; omega) (fun q => by have := hx _ _ q; omega) (fun j q => by have := hx _ _ q; omega) (fun b j q => by have := hx _ _ q; omega), h5.ag (by decide) hA (fun q => by have := hx _ _ q; omega) (fun q => by have := hx _ _ q; omega) (fun j q => by have := hx _ _ q; omega) (fun b j q => by have := hx _ _ q; omega), h6.ag hA (fun q => by have := hx _ _ q; omega) (fun j q => by have := hx _ _ q; omega) (fun q => by have := hx _ _ q; omega) (fun j q => by have := hx _ _ q; omega), h7.ag hA (fun q => by have := hx _ _ q; omega) (fun q => by have := hx _ _ q; omega) (fun b j _ _ q => by have := hx _ _ q; omega) (fun j q => by have := hx _ _ q; omega), h8.ag hA (fun j q => by have := hx _ _ q; omega) (fun b j _ q => by have := hx _ _ q; omega)⟩
/-- a call that is taken; what it changes is told whole -/
theorem Ag1.acc {f g : zH → Option (Int32 × zH)} (h : Inv S M B) {v : Int} (v0 : 0 ≤ v) (v1 : v ≤ 1000000000) {M1 : zH} (e1 : f M = F_NC_accept n E S (B + 0) (iI v) M1) (h104 : ∀ j, mI M1 (B + 104) j = mI M (B + 104) j) (h106 : ∀ j, mI M1 (B + 106) j = mI M (B + 106) j)
    (e2 : ∃ M3, g (setI M1 (B + 0) 15 (iI 0)) = F_Mo_tell n E S (B + 105) (iI v) M3 ∧ mI M3 (B + 0) 15 = iI 0 ∧ (∀ j, mI M3 (B + 104) j = mI M1 (B + 104) j) ∧ (∀ j, mI M3 (B + 106) j = mI M1 (B + 106) j) ∧ InvB S M3 B ∧ Msc M3 B) : Ag1 S B M f g := by
  have hS := h.1
  obtain ⟨_, b1, b2, b3, b4, b5⟩ := h.2.2.2.2.2.2.1
  obtain ⟨M3, e3, i15, i104, i106, hB, m1, m2, m3⟩ := e2
  rw [s_accept hS] at e1
  rw [s_tellP hS v0 v1] at e3
  have hA4 : zAg (fun b j => b = B + 105 ∧ j = 1) M3 (setI M3 (B + 105) 1 (iI 0)) := zAg.rfl'.setI ⟨rfl, rfl⟩
  have k4 : ∀ b j, ¬ (b = B + 105 ∧ j = 1) → mI (setI M3 (B + 105) 1 (iI 0)) b j = mI M3 b j := fun b j q => (hA4 b j q).1
  obtain ⟨g1, g2, g3, g4, g5, g6, g7, g8⟩ := hB.tell hA4 (fun b j q => Or.inl q)
  refine ⟨iI v, _, _, e1, e3, g1, g2, g3, g4, g5, g6, ⟨⟨?_, ?_, ?_, ?_⟩, ?_, ?_, ?_, ?_, ?_⟩, g7, g8⟩
  · rw [mI_s, k4 _ _ (by omega), i15]
  · rw [k4 _ _ (by omega), k4 _ _ (by omega)]; exact m1
  · rw [k4 _ _ (by omega), k4 _ _ (by omega)]; exact m2
  · rw [k4 _ _ (by omega), k4 _ _ (by omega)]; exact m3
  · rw [k4 _ _ (by omega), k4 _ _ (by omega), i104, i106, h104, h106]; exact b1
  · rw [k4 _ _ (by omega), k4 _ _ (by omega), i104, i106, h104, h106]; exact b2
  · rw [k4 _ _ (by omega), k4 _ _ (by omega), i104, i106, h104, h106]; exact b3
  · rw [k4 _ _ (by omega), k4 _ _ (by omega), i104, i106, h104, h106]; exact b4
  · rw [k4 _ _ (by omega), k4 _ _ (by omega), i104, i106, h104, h106]; exact b5
theorem ConR.im (h : ConR M B) (hS : ShOK S B) {k : Nat} (hk : k < 2) : zldR S M 17 (B + 13) (iI (k : Int)) = some (some (B + iaI k)) := by
  rw [pi_ldR (c := 17) (L := 2) (hS.k 13 (by decide)) (hS.n 13 (by decide)) (by omega) (by show (k : Int) < ((2 : Nat) : Int); omega) (by decide), Int.toNat_natCast]
  rcases (show k = 0 ∨ k = 1 by omega) with rfl | rfl
  · rw [h.1.1]; rfl
  · rw [h.1.2]; rfl
theorem iaI_n (hS : ShOK S B) {k : Nat} (hk : k < 2) : NiS S (B + iaI k) := by
  rcases (show k = 0 ∨ k = 1 by omega) with rfl | rfl
  · exact hS.im0
  · exact hS.im1
theorem iaI_b (k : Nat) : iaI k = 14 ∨ iaI k = 26 := by unfold iaI; by_cases c : k = 0 <;> simp [c]
theorem s_in01 {x : Int} (hx : zR x) : F_Mo_in n E S (iI x).toInt64 0 1 M = some (decide (0 ≤ x ∧ x ≤ 1), M) := by
  rw [xJ hx.1 hx.2, jL0, jL1, s_in (by have := hx.1; omega) (by have := hx.2; omega) (by omega) (by omega) (by omega) (by omega)]
theorem s_w01 {x : Int} (hx : zR x) : F_NC_within n E S (iI x) 0 1 M = some (decide (0 ≤ x ∧ x ≤ 1), M) := by
  rw [iL0, iL1, s_withinI hx (zR_of (by omega) (by omega)) (zR_of (by omega) (by omega))]
theorem c_image (h : Inv S M B) (hn : 100000 ≤ n) {x : Int} (hx : zR x) : Ag1 S B M (fun M => F_NC_image n E S (B + 0) (iI x) M) (fun M => F_Mo_image n E S (B + 105) (iI x) M) := by
  obtain ⟨hS, hZ, ⟨N, Ls, hC, hM, hh, hP⟩, hI0, hI1, hT, hMi, hY, hCo⟩ := id h
  by_cases c : 0 ≤ x ∧ x ≤ 1
  · obtain ⟨k, rfl, hk⟩ : ∃ k : Nat, x = (k : Int) ∧ k < 2 := ⟨x.toNat, by omega, by omega⟩
    have hib := iaI_b k
    obtain ⟨M1, e1, hR1, hr1, hA1⟩ := s_copyFrom (n := n) (E := E) (iaI_n hS hk) hS.now hC.1 hC.2.1 (by omega) (by omega) (fun j hj t ht => ((hC.2.2 j hj).1 t ht).1)
    have hCi : CN S M1 B (B + iaI k) N Ls := hC.copy hR1 hr1 hA1 (fun b j q => by unfold nCells at q; omega)
    have hA2 : zAg (fun b j => nCells (B + iaI k) b j ∨ (b = B + 38 ∧ j = k)) M (setI M1 (B + 38) k (iI 1)) := (hA1.mono (fun _ _ q => Or.inl q)).setI (Or.inr ⟨rfl, rfl⟩)
    refine Ag1.acc (n := n) (E := E) h (v := 0) (by decide) (by decide) (M1 := setI M1 (B + 38) k (iI 1)) ?_ (fun j => (hA2 _ _ (fun q => by unfold nCells at q; omega)).1) (fun j => (hA2 _ _ (fun q => by unfold nCells at q; omega)).1) ?_
    · show F_NC_image n E S (B + 0) (iI (k : Int)) M = _
      unfold F_NC_image
      rw [s_w01 hx, obs, if_pos (decide_eq_true c), hS.g0_1, obs, hCo.im hS hk, obs, hS.g0_0, obs, obs, (iaI_n hS hk).ck, obs, e1, obs, hS.g0_2, obs, hS.w38 (by omega) (by omega), obs, be_, Int.toNat_natCast]
      rfl
    · have hA4 : zAg (fun b j => (nCells (B + iaI k) b j ∨ (b = B + 38 ∧ j = k)) ∨ (b = B + 0 ∧ j = 15) ∨ (b = B + 105 ∧ j = 0)) M (setI (setI (setI M1 (B + 38) k (iI 1)) (B + 0) 15 (iI 0)) (B + 105) 0 (iI 0)) := by
        refine ((hA2.mono (fun _ _ q => Or.inl q)).setI ?_).setI ?_
        · exact Or.inr (Or.inl ⟨rfl, rfl⟩)
        · exact Or.inr (Or.inr ⟨rfl, rfl⟩)
      obtain ⟨s', m, ⟨M5, hs', h5, hA5⟩, e⟩ := zfix_inv (F := fun r23 s => F_Mo_image_L23 n E S r23 s.1 s.2.1 s.2.2.1 s.2.2.2) (fun i s => ∃ M5, s = (B + 105, iI (k : Int), iI (i : Int), M5) ∧ (∀ j, j < i → mI M5 (B + 108) (5480 * k + j) = mI M (B + 107) j) ∧ zAg (fun b j => b = B + 108 ∧ 5480 * k ≤ j ∧ j < 5480 * k + 5480) (setI (setI (setI M1 (B + 38) k (iI 1)) (B + 0) 15 (iI 0)) (B + 105) 0 (iI 0)) M5) 5480 (fun i hi s hI' => by
        obtain ⟨M5, rfl, h5, hA5⟩ := hI'
        refine ⟨(B + 105, iI (k : Int), iI ((i + 1 : Nat) : Int), setI M5 (B + 108) (5480 * k + i) (mI M (B + 107) i)), ⟨_, rfl, fun j hj => ?_, hA5.setI ⟨rfl, by omega, by omega⟩⟩, fun rec => ?_⟩
        · rw [mI_ite]
          by_cases c : j = i
          · rw [if_pos ⟨rfl, by omega⟩, c]
          · rw [if_neg (fun q => c (by omega)), h5 j (by omega)]
        · show F_Mo_image_L23 n E S rec (B + 105) (iI (k : Int)) (iI (i : Int)) M5 = _
          unfold F_Mo_image_L23
          rw [iL5480, if_neg (by rw [xle (by omega) (by omega) (by omega) (by omega)]; omega), hS.g105_4, obs, hS.g105_3, obs, hS.r107 (by omega) (by omega), obs, iI_mul, iI_add, hS.w108 (by omega) (by omega), obs, iL1, iI_add, show (5480 * (k : Int) + (i : Int)).toNat = 5480 * k + i by omega, Int.toNat_natCast, (hA5 _ _ (fun q => by omega)).1, (hA4 _ _ (fun q => by unfold nCells at q; omega)).1]
          rfl) n 0 (B + 105, iI (k : Int), 0, setI (setI (setI M1 (B + 38) k (iI 1)) (B + 0) 15 (iI 0)) (B + 105) 0 (iI 0)) (by omega) (by omega) ⟨_, rfl, fun j hj => by omega, zAg.rfl'⟩
      have hA6 : zAg (fun b j => ((nCells (B + iaI k) b j ∨ (b = B + 38 ∧ j = k)) ∨ (b = B + 0 ∧ j = 15) ∨ (b = B + 105 ∧ j = 0)) ∨ (b = B + 108 ∧ 5480 * k ≤ j ∧ j < 5480 * k + 5480) ∨ (b = B + 109 ∧ j = k)) M (setI M5 (B + 109) k (iI 1)) := ((hA4.mono (fun _ _ q => Or.inl q)).trans (hA5.mono (fun _ _ q => Or.inr (Or.inl q)))).setI (Or.inr (Or.inr ⟨rfl, rfl⟩))
      have hAi : zAg (fun b j => (b = B + 38 ∧ j = k) ∨ (b = B + 0 ∧ j = 15) ∨ (b = B + 105 ∧ j = 0) ∨ (b = B + 108 ∧ 5480 * k ≤ j ∧ j < 5480 * k + 5480) ∨ (b = B + 109 ∧ j = k)) M1 (setI M5 (B + 109) k (iI 1)) := by
        refine ((((zAg.rfl'.setI ?_).setI ?_).setI ?_).trans (hA5.mono (fun _ _ q => ?_))).setI ?_
        · left; exact ⟨rfl, rfl⟩
        · right; left; exact ⟨rfl, rfl⟩
        · right; right; left; exact ⟨rfl, rfl⟩
        · right; right; right; left; exact q
        · right; right; right; right; exact ⟨rfl, rfl⟩
      refine ⟨setI M5 (B + 109) k (iI 1), ?_, ?_, fun j => (hAi _ _ (fun q => by omega)).1.trans (mI_a (by omega)).symm, fun j => (hAi _ _ (fun q => by omega)).1.trans (mI_a (by omega)).symm, ?_, Msc.of h hA6 (fun j _ _ q => by unfold nCells at q; omega) (fun j _ q => by unfold nCells at q; omega)⟩
      · show F_Mo_image n E S (B + 105) (iI (k : Int)) _ = _
        unfold F_Mo_image
        rw [iL0, hS.p105, obs, s_in01 hx, obs, if_pos (decide_eq_true c)]
        unfold F_Mo_image_b23
        refine e.trans ?_
        rw [hs']
        show F_Mo_image_L23 n E S _ (B + 105) (iI (k : Int)) (iI ((5480 : Nat) : Int)) M5 = _
        unfold F_Mo_image_L23
        rw [if_pos (by decide), hS.g105_5, obs, hS.w109 (by omega) (by omega), obs, be_, Int.toNat_natCast]
        rfl
      · rw [mI_a (by omega), (hA5 _ _ (fun q => by omega)).1, mI_a (by omega), mI_s]
      · have hthis : ImR S (setI M5 (B + 109) k (iI 1)) B k := by
          refine Or.inr ⟨?_, ?_, N, Ls, hCi.ag hAi (fun b j q => by omega), hh, hM.2.1.cg (fun i hi => ?_), fun j hj hl => (hM.2.2.2 j hj hl).cg (fun i h1 h2 => ?_)⟩
          · rw [mI_a (by omega), (hA5 _ _ (fun q => by omega)).1, mI_a (by omega), mI_a (by omega), mI_s]; rfl
          · rw [mI_s]; rfl
          · rw [mI_a (by omega), h5 i (by omega)]
          · rw [mI_a (by omega), h5 i (by omega)]
        have hno : Now S (setI M5 (B + 109) k (iI 1)) B := by
          refine ⟨N, Ls, hC.ag hA6 (fun b j q => by unfold nCells at q; omega), hM.ag hA6 (fun j q => by unfold nCells at q; omega) (fun q => by unfold nCells at q; omega), hh, hP.ag hA6 (fun q => by unfold nCells at q; omega) (fun j q => by unfold nCells at q; omega) (fun q => by unfold nCells at q; omega) (fun j _ q => by unfold nCells at q; omega) (fun j q => by unfold nCells at q; omega)⟩
        have hrest : TapeR (setI M5 (B + 109) k (iI 1)) B ∧ YearR (setI M5 (B + 109) k (iI 1)) B ∧ ConR (setI M5 (B + 109) k (iI 1)) B := ⟨hT.ag hA6 (fun q => by unfold nCells at q; omega) (fun j q => by unfold nCells at q; omega) (fun q => by unfold nCells at q; omega) (fun j q => by unfold nCells at q; omega), hY.ag hA6 (fun q => by unfold nCells at q; omega) (fun q => by unfold nCells at q; omega) (fun b j _ _ q => by unfold nCells at q; omega) (fun j q => by unfold nCells at q; omega), hCo.ag hA6 (fun j q => by unfold nCells at q; omega) (fun b j _ q => by unfold nCells at q; omega)⟩
        have e0 : iaI 0 = 14 := rfl
        have e1 : iaI 1 = 26 := rfl
        rcases (show k = 0 ∨ k = 1 by omega) with rfl | rfl
        · exact ⟨hS, hZ, hno, hthis, hI1.ag2 (by decide) hA6 (fun q => by unfold nCells at q; omega) (fun q => by unfold nCells at q; omega) (fun j _ _ q => by unfold nCells at q; omega) (fun b j q => by unfold nCells at q; omega), hrest⟩
        · exact ⟨hS, hZ, hno, hI0.ag2 (by decide) hA6 (fun q => by unfold nCells at q; omega) (fun q => by unfold nCells at q; omega) (fun j _ _ q => by unfold nCells at q; omega) (fun b j q => by unfold nCells at q; omega), hthis, hrest⟩
  · refine Ag1.rf (n := n) (E := E) h (code := -1) (Or.inl rfl) ?_ (fun M1 hA => ?_)
    · show F_NC_image n E S (B + 0) (iI x) M = _
      unfold F_NC_image
      rw [s_w01 hx, obs, if_neg (fun q => c (of_decide_eq_true q)), hS.ck0, obs, be_]
      rfl
    · show F_Mo_image n E S (B + 105) (iI x) M1 = _
      unfold F_Mo_image
      rw [iL0, hS.p105, obs, s_in01 hx, obs, if_neg (fun q => c (of_decide_eq_true q)), hS.ck105, obs, be_]
      rfl
theorem c_back (h : Inv S M B) (hn : 100000 ≤ n) {x : Int} (hx : zR x) : Ag1 S B M (fun M => F_NC_back n E S (B + 0) (iI x) M) (fun M => F_Mo_back n E S (B + 105) (iI x) M) := by
  obtain ⟨hS, hZ, ⟨N0, Ls0, hC0, hM0, hh0, hP0⟩, hI0, hI1, hT, hMi, hY, hCo⟩ := id h
  by_cases c : 0 ≤ x ∧ x ≤ 1
  · obtain ⟨k, rfl, hk⟩ : ∃ k : Nat, x = (k : Int) ∧ k < 2 := ⟨x.toNat, by omega, by omega⟩
    have hib := iaI_b k
    have hIk : ImR S M B k := by
      rcases (show k = 0 ∨ k = 1 by omega) with rfl | rfl
      · exact hI0
      · exact hI1
    rcases hIk with ⟨z1, z2⟩ | ⟨z1, z2, N, Ls, hC, hh, hR, hL⟩
    · refine Ag1.rf (n := n) (E := E) h (code := -2) (Or.inr (Or.inl rfl)) ?_ (fun M1 hA => ?_)
      · show F_NC_back n E S (B + 0) (iI (k : Int)) M = _
        unfold F_NC_back
        rw [s_w01 hx, obs, if_pos (decide_eq_true c), hS.g0_2, obs, hS.r38 (by omega) (by omega), obs, Int.toNat_natCast, z1, if_pos rfl, be_]
        rfl
      · show F_Mo_back n E S (B + 105) (iI (k : Int)) M1 = _
        unfold F_Mo_back
        rw [iL0, hS.p105, obs, s_in01 hx, obs, if_pos (decide_eq_true c), hS.g105_5, obs, hS.r109 (by omega) (by omega), obs, Int.toNat_natCast, mI_a (by omega), (hA _ _ (fun q => by unfold rfX at q; omega)).1, z2, if_pos (by decide), be_]
        rfl
    · obtain ⟨M1, e1, hR1, hr1, hA1⟩ := s_copyFrom (n := n) (E := E) hS.now (iaI_n hS hk) hC.1 hC.2.1 (by omega) (by omega) (fun j hj t ht => ((hC.2.2 j hj).1 t ht).1)
      have hC1 : CN S M1 B (B + 1) N Ls := hC.copy hR1 hr1 hA1 (fun b j q => by unfold nCells at q; omega)
      have hA2 : zAg (fun b j => nCells (B + 1) b j ∨ (b = B + 63 ∧ j = 1)) M (setI M1 (B + 63) 1 (iI 0)) := (hA1.mono (fun _ _ q => Or.inl q)).setI (Or.inr ⟨rfl, rfl⟩)
      refine Ag1.ans (n := n) (E := E) h (v := 0) (Or.inl (by decide)) (M1 := setI M1 (B + 63) 1 (iI 0)) ?_ (hA2.mono (fun b j q => by unfold nCells at q; unfold gC gX; omega)) (fun M2 hA3 => ?_)
      · show F_NC_back n E S (B + 0) (iI (k : Int)) M = _
        unfold F_NC_back
        rw [ans_acc hS (by decide) (by decide), s_w01 hx, obs, if_pos (decide_eq_true c), hS.g0_2, obs, hS.r38 (by omega) (by omega), obs, Int.toNat_natCast, z1, if_neg (by decide), hS.g0_0, obs, hS.g0_1, obs, hCo.im hS hk, obs, obs, hS.now.ck, obs, e1, obs, hS.g0_5, obs, hS.ck63, obs, s_clear hS, obs, be_]
        rfl
      · have hA4 : zAg (fun b j => (nCells (B + 1) b j ∨ (b = B + 63 ∧ j = 1)) ∨ rfX B b j ∨ (b = B + 105 ∧ j = 0)) M (setI M2 (B + 105) 0 (iI 0)) := ((hA2.mono (fun _ _ q => Or.inl q)).trans (hA3.mono (fun _ _ q => Or.inr (Or.inl q)))).setI (Or.inr (Or.inr ⟨rfl, rfl⟩))
        obtain ⟨s', m, ⟨M5, hs', h5, hA5⟩, e⟩ := zfix_inv (F := fun r23 s => F_Mo_back_L39 n E S r23 s.1 s.2.1 s.2.2.1 s.2.2.2) (fun i s => ∃ M5, s = (B + 105, iI (k : Int), iI (i : Int), M5) ∧ (∀ j, j < i → mI M5 (B + 107) j = mI M (B + 108) (5480 * k + j)) ∧ zAg (fun b j => b = B + 107) (setI M2 (B + 105) 0 (iI 0)) M5) 5480 (fun i hi s hI' => by
          obtain ⟨M5, rfl, h5, hA5⟩ := hI'
          refine ⟨(B + 105, iI (k : Int), iI ((i + 1 : Nat) : Int), setI M5 (B + 107) i (mI M (B + 108) (5480 * k + i))), ⟨_, rfl, fun j hj => ?_, hA5.setI rfl⟩, fun rec => ?_⟩
          · rw [mI_ite]
            by_cases c : j = i
            · rw [if_pos ⟨rfl, c⟩, c]
            · rw [if_neg (fun q => c q.2), h5 j (by omega)]
          · show F_Mo_back_L39 n E S rec (B + 105) (iI (k : Int)) (iI (i : Int)) M5 = _
            unfold F_Mo_back_L39
            rw [iL5480, if_neg (by rw [xle (by omega) (by omega) (by omega) (by omega)]; omega), hS.g105_3, obs, hS.g105_4, obs, iI_mul, iI_add, hS.r108 (by omega) (by omega), obs, hS.w107 (by omega) (by omega), obs, iL1, iI_add, show (5480 * (k : Int) + (i : Int)).toNat = 5480 * k + i by omega, Int.toNat_natCast, (hA5 _ _ (fun q => by omega)).1, (hA4 _ _ (fun q => by unfold nCells rfX at q; omega)).1]
            rfl) n 0 (B + 105, iI (k : Int), 0, setI M2 (B + 105) 0 (iI 0)) (by omega) (by omega) ⟨_, rfl, fun j hj => by omega, zAg.rfl'⟩
        have hA25 : zAg (fun b j => (b = B + 105 ∧ (j = 0 ∨ j = 8)) ∨ b = B + 107) M2 (setI M5 (B + 105) 8 (iI 0)) := (((zAg.rfl' (M := M2)).setI (Or.inl ⟨rfl, Or.inl rfl⟩)).trans (hA5.mono (fun _ _ q => Or.inr q))).setI (Or.inl ⟨rfl, Or.inr rfl⟩)
        have hA15 : zAg (fun b j => (b = B + 63 ∧ j = 1) ∨ rfX B b j ∨ (b = B + 105 ∧ (j = 0 ∨ j = 8)) ∨ b = B + 107) M1 (setI M5 (B + 105) 8 (iI 0)) := (((zAg.rfl' (M := M1)).setI (Or.inl ⟨rfl, rfl⟩)).trans (hA3.mono (fun _ _ q => Or.inr (Or.inl q)))).trans (hA25.mono (fun _ _ q => Or.inr (Or.inr q)))
        have hA05 : zAg (fun b j => (nCells (B + 1) b j ∨ (b = B + 63 ∧ j = 1)) ∨ rfX B b j ∨ (b = B + 105 ∧ (j = 0 ∨ j = 8)) ∨ b = B + 107) M (setI M5 (B + 105) 8 (iI 0)) := ((hA2.mono (fun _ _ q => Or.inl q)).trans (hA3.mono (fun _ _ q => Or.inr (Or.inl q)))).trans (hA25.mono (fun _ _ q => Or.inr (Or.inr q)))
        refine ⟨setI M5 (B + 105) 8 (iI 0), ?_, hA25.mono (fun b j q => by unfold gM gX; omega), ⟨N, Ls, hC1.ag hA15 (fun b j q => by unfold rfX at q; omega), ⟨?_, ?_, hC.2.1, fun j hj hl => ?_⟩, hh, PastR.nil ?_ ?_⟩, hT.ag hA05 (fun q => by unfold nCells rfX at q; omega) (fun j q => by unfold nCells rfX at q; omega) (fun q => by unfold nCells rfX at q; omega) (fun j q => by unfold nCells rfX at q; omega), Msc.of h hA05 (fun j _ _ q => by unfold nCells rfX at q; omega) (fun j _ q => by unfold nCells rfX at q; omega)⟩
        · show F_Mo_back n E S (B + 105) (iI (k : Int)) M2 = _
          unfold F_Mo_back
          rw [iL0, hS.p105, obs, s_in01 hx, obs, if_pos (decide_eq_true c), hS.g105_5, obs, hS.r109 (by omega) (by omega), obs, Int.toNat_natCast, (hA4 _ _ (fun q => by unfold nCells rfX at q; omega)).1, z2, if_neg (by decide)]
          unfold F_Mo_back_b39
          refine e.trans ?_
          rw [hs']
          show F_Mo_back_L39 n E S _ (B + 105) (iI (k : Int)) (iI ((5480 : Nat) : Int)) M5 = _
          unfold F_Mo_back_L39 F_Mo_lasting F_Mo_lasting_b13
          rw [if_pos (by decide), hS.ck105, obs, if_pos (by decide), hS.p105, obs, obs, be_, be_]
          rfl
        · rw [(hA05 _ _ (fun q => by unfold nCells rfX at q; omega)).1]; exact hM0.1
        · exact hR.cg (fun i hi => by rw [mI_a (by omega), h5 i (by omega)])
        · exact (hL j hj hl).cg (fun i h1 h2 => by rw [mI_a (by omega), h5 i (by omega)])
        · exact (hA25 _ _ (fun q => by omega)).1.trans ((hA3 _ _ (fun q => by unfold rfX at q; omega)).1.trans mI_s)
        · rw [mI_s]
  · refine Ag1.rf (n := n) (E := E) h (code := -1) (Or.inl rfl) ?_ (fun M1 hA => ?_)
    · show F_NC_back n E S (B + 0) (iI x) M = _
      unfold F_NC_back
      rw [s_w01 hx, obs, if_neg (fun q => c (of_decide_eq_true q)), hS.ck0, obs, be_]
      rfl
    · show F_Mo_back n E S (B + 105) (iI x) M1 = _
      unfold F_Mo_back
      rw [iL0, hS.p105, obs, s_in01 hx, obs, if_neg (fun q => c (of_decide_eq_true q)), hS.ck105, obs, be_]
      rfl
end
