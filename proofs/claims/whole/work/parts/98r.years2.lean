/-! years: what is drawn, the call -/
section
variable {n : Nat} {E : zE} {S : zS} {M M' : zH} {B : Nat} {N N' : Nt} {Ls : Nat → Lw}
theorem years_e (hS : ShOK S B) (hn : 600 ≤ n) (hM : MN M B N Ls) {v : Int32} : ∃ M', F_Mo_years_b182 n E S (B + 105) v M = ((F_Mo_putBack n E S (B + 105) (iI 16) M').bind fun q_24 => (F_Mo_tell n E S (B + 105) v q_24).bind fun q_25 => some (q_25.1, q_25.2)) ∧ (∀ r : Nat, r < 4 → mI M' (B + 135) r = iI (zsum (fun h => N 0 ((r : Int) * 8 + h).toNat) 8) ∧ mI M' (B + 135) (4 + r) = iI (N 2 r)) ∧ (∀ b : Nat, (b : Int) < N 11 0 → mI M' (B + 135) (8 + b) = iI (N 4 b)) ∧ mI M' (B + 105) 56 = iI (N 11 0) ∧ zAg (fun b j => b = B + 135 ∨ (b = B + 105 ∧ j = 56)) M M' := by
  have hN := hM.2.2.1
  have hnb := hN.nb
  unfold F_Mo_years_b182 F_Mo_years_b185
  obtain ⟨s1, w1, ⟨M1, hs1, h1, hA1⟩, e1⟩ := zfix_inv (F := fun r185 s => F_Mo_years_L185 n E S r185 s.1 s.2.1 s.2.2.1 s.2.2.2) (fun r s => ∃ M1, s = (B + 105, v, iI (r : Int), M1) ∧ (∀ q : Nat, q < r → mI M1 (B + 135) q = iI (zsum (fun h => N 0 ((q : Int) * 8 + h).toNat) 8) ∧ mI M1 (B + 135) (4 + q) = iI (N 2 q)) ∧ zAg (fun b j => b = B + 135) M M1) 4 (fun r hr s hI' => by
    obtain ⟨M1, rfl, h1, hA1⟩ := hI'
    obtain ⟨s2, ⟨M2, hs2, h2, hA2⟩, e2⟩ := zfix_inv2 (F := fun r185 r202 s => F_Mo_years_L202 n E S r185 r202 s.1 s.2.1 s.2.2.1 s.2.2.2.1 s.2.2.2.2) (fun h s => ∃ M2, s = (B + 105, v, iI (r : Int), iI (h : Int), M2) ∧ mI M2 (B + 135) r = iI (zsum (fun h => N 0 ((r : Int) * 8 + h).toNat) h) ∧ zAg (fun b j => b = B + 135 ∧ j = r) M1 M2) 8 (fun h hh s hI' => by
      obtain ⟨M2, rfl, h2, hA2⟩ := hI'
      have hM2 : MN M2 B N Ls := (hM.ag hA1 (fun j q => by omega) (fun q => by omega)).ag hA2 (fun j q => by omega) (fun q => by omega)
      refine ⟨(B + 105, v, iI (r : Int), iI ((h + 1 : Nat) : Int), setI M2 (B + 135) r (iI (zsum (fun h => N 0 ((r : Int) * 8 + h).toNat) (h + 1)))), ⟨_, rfl, by rw [mI_s], hA2.setI ⟨rfl, rfl⟩⟩, fun r185 rec => ?_⟩
      show F_Mo_years_L202 n E S r185 rec (B + 105) v (iI (r : Int)) (iI (h : Int)) M2 = _
      unfold F_Mo_years_L202
      rw [iL8, if_neg (cleF (by omega) (by omega) (by omega)), hS.g105_55, obs, hS.r135 (by omega) (by omega), obs, Int.toNat_natCast, h2, hS.g105_3, obs, show (12 : Int32) = iI 12 by decide, iI_mul, iI_add, iI_add, hS.r107 (by omega) (by omega), obs, hM2.2.1.bore (by omega) (by omega) (by omega) (by omega), iI_add, hS.w135 (by omega) (by omega), obs, Int.toNat_natCast, iL1, iI_add]
      rfl) n 0 (B + 105, v, iI (r : Int), 0, setI M1 (B + 135) r (iI 0)) (by omega) (by omega) ⟨_, rfl, by rw [mI_s]; rfl, zAg.rfl'.setI ⟨rfl, rfl⟩⟩
    have hM2 : MN M2 B N Ls := (hM.ag hA1 (fun j q => by omega) (fun q => by omega)).ag hA2 (fun j q => by omega) (fun q => by omega)
    refine ⟨(B + 105, v, iI ((r + 1 : Nat) : Int), setI M2 (B + 135) (4 + r) (iI (N 2 r))), ⟨_, rfl, fun q hq => ?_, (hA1.trans (hA2.mono (fun b j q => q.1))).setI rfl⟩, fun rec => ?_⟩
    · by_cases c : q = r
      · subst c
        exact ⟨by rw [mI_i (by omega)]; exact h2, by rw [mI_s]⟩
      · exact ⟨by rw [mI_i (by omega), (hA2 _ _ (fun z => c z.2)).1]; exact (h1 q (by omega)).1, by rw [mI_i (by omega), (hA2 _ _ (fun z => by omega)).1]; exact (h1 q (by omega)).2⟩
    · show F_Mo_years_L185 n E S rec (B + 105) v (iI (r : Int)) M1 = _
      unfold F_Mo_years_L185 F_Mo_years_b202
      obtain ⟨w, e5⟩ := e2 rec
      rw [iL4, if_neg (cleF (by omega) (by omega) (by omega)), hS.g105_55, obs, iL0, hS.w135 (by omega) (by omega), obs, Int.toNat_natCast]
      refine e5.trans ?_
      rw [hs2]
      show F_Mo_years_L202 n E S rec _ (B + 105) v (iI (r : Int)) (iI ((8 : Nat) : Int)) M2 = _
      unfold F_Mo_years_L202
      rw [iL8, if_pos (cleT (by omega) (by omega) (by omega)), hS.g105_55, obs, hS.g105_3, obs, iI_add, hS.r107 (by omega) (by omega), obs, hM2.2.1.turn (by omega) (by omega), Int.toNat_natCast, iL4, iI_add, hS.w135 (by omega) (by omega), obs, iL1, iI_add, show (4 + (r : Int)).toNat = 4 + r by omega]
      rfl) n 0 (B + 105, v, 0, M) (by omega) (by omega) ⟨M, rfl, fun q hq => by omega, zAg.rfl'⟩
  have hM1 : MN M1 B N Ls := hM.ag hA1 (fun j q => by omega) (fun q => by omega)
  obtain ⟨s3, w3, ⟨M3, hs3, h3, hA3⟩, e3⟩ := zfix_inv (F := fun r279 s => F_Mo_years_L279 n E S r279 s.1 s.2.1 s.2.2.1 s.2.2.2) (fun b s => ∃ M3, s = (B + 105, v, iI (b : Int), M3) ∧ (∀ q : Nat, q < b → mI M3 (B + 135) (8 + q) = iI (N 4 q)) ∧ zAg (fun b j => b = B + 135 ∧ 8 ≤ j) (setI M1 (B + 105) 56 (iI (N 11 0))) M3) (N 11 0).toNat (fun b hb s hI' => by
    obtain ⟨M3, rfl, h3, hA3⟩ := hI'
    have hM3 : MN M3 B N Ls := (hM1.ag (X := fun b j => b = B + 105 ∧ j = 56) (zAg.rfl'.setI ⟨rfl, rfl⟩) (fun j q => by omega) (fun q => by omega)).ag hA3 (fun j q => by omega) (fun q => by omega)
    refine ⟨(B + 105, v, iI ((b + 1 : Nat) : Int), setI M3 (B + 135) (8 + b) (iI (N 4 b))), ⟨_, rfl, fun q hq => ?_, hA3.setI ⟨rfl, by omega⟩⟩, fun rec => ?_⟩
    · rw [mI_ite]
      by_cases c : q = b
      · rw [if_pos ⟨rfl, by omega⟩, c]
      · rw [if_neg (fun z => c (by omega)), h3 q (by omega)]
    · show F_Mo_years_L279 n E S rec (B + 105) v (iI (b : Int)) M3 = _
      unfold F_Mo_years_L279
      have e56 : mI M3 (B + 105) 56 = iI (N 11 0) := by rw [(hA3 _ _ (fun z => by omega)).1, mI_s]
      rw [hS.i105, obs, e56, if_neg (cleF (by omega) (by omega) (by omega)), hS.g105_55, obs, hS.g105_3, obs, show (48 : Int32) = iI 48 by decide, iI_add, hS.r107 (by omega) (by omega), obs, hM3.2.1.lev (by omega) (by omega), Int.toNat_natCast, iL8, iI_add, hS.w135 (by omega) (by omega), obs, iL1, iI_add, show (8 + (b : Int)).toNat = 8 + b by omega]
      rfl) n 0 (B + 105, v, 0, setI M1 (B + 105) 56 (iI (N 11 0))) (by omega) (by omega) ⟨_, rfl, fun q hq => by omega, zAg.rfl'⟩
  have e56 : mI M3 (B + 105) 56 = iI (N 11 0) := by rw [(hA3 _ _ (fun z => by omega)).1, mI_s]
  refine ⟨M3, ?_, fun r hr => ?_, fun b hb => h3 b (by omega), e56, ?_⟩
  · refine e1.trans ?_
    rw [hs1]
    show F_Mo_years_L185 n E S _ (B + 105) v (iI ((4 : Nat) : Int)) M1 = _
    unfold F_Mo_years_L185 F_Mo_years_b279
    rw [iL4, if_pos (cleT (by omega) (by omega) (by omega)), hS.g105_3, obs, iL0, hS.r107 (by omega) (by omega), obs, tn0, hM1.2.1.nb, hS.p105, obs]
    refine e3.trans ?_
    rw [hs3]
    show F_Mo_years_L279 n E S _ (B + 105) v (iI ((N 11 0).toNat : Int)) M3 = _
    unfold F_Mo_years_L279
    rw [hS.i105, obs, e56, if_pos (cleT (by omega) (by omega) (by omega)), iL16]
  · obtain ⟨g1, g2⟩ := h1 r hr
    exact ⟨by rw [(hA3 _ _ (fun z => by omega)).1, mI_a (by omega)]; exact g1, by rw [(hA3 _ _ (fun z => by omega)).1, mI_a (by omega)]; exact g2⟩
  · exact ((hA1.mono (fun b j q => Or.inl q)).setI (Or.inr ⟨rfl, rfl⟩)).trans (hA3.mono (fun b j q => Or.inl q.1))
theorem c_years (h : Inv S M B) (hn : 100000 ≤ n) {x y : Int} (hx : zR x) (hy : zR y) : Ag1 S B M (fun M => F_NC_years n E S (B + 0) (iI x) (iI y) M) (fun M => F_Mo_years n E S (B + 105) (iI x) (iI y) M) := by
  obtain ⟨hS, hZ, ⟨N, Ls, hC, hM, hh, hP⟩, hI0, hI1, hT, hMi, hY, hCo⟩ := id h
  have hN := hC.2.1
  have wc : ∀ M, F_NC_within n E S (iI x) 0 1000000 M = some (decide (0 ≤ x ∧ x ≤ 1000000), M) := fun M => by
    rw [iL0, show (1000000 : Int32) = iI 1000000 by decide, s_withinI hx (zR_of (by omega) (by omega)) (zR_of (by omega) (by omega))]
  have wd : ∀ M, F_NC_within n E S (iI y) 1 60 M = some (decide (1 ≤ y ∧ y ≤ 60), M) := fun M => by
    rw [iL1, iL60, s_withinI hy (zR_of (by omega) (by omega)) (zR_of (by omega) (by omega))]
  have mc : ∀ M, F_Mo_in n E S (iI x).toInt64 0 1000000 M = some (decide (0 ≤ x ∧ x ≤ 1000000), M) := fun M => by
    rw [xJ hx.1 hx.2, jL0, show (1000000 : Int64) = jJ 1000000 by decide, s_in (by have := hx.1; omega) (by have := hx.2; omega) (by omega) (by omega) (by omega) (by omega)]
  have md : ∀ M, F_Mo_in n E S (iI y).toInt64 1 60 M = some (decide (1 ≤ y ∧ y ≤ 60), M) := fun M => by
    rw [xJ hy.1 hy.2, jL1, show (60 : Int64) = jJ 60 by decide, s_in (by have := hy.1; omega) (by have := hy.2; omega) (by omega) (by omega) (by omega) (by omega)]
  by_cases c : (0 ≤ x ∧ x ≤ 1000000) ∧ (1 ≤ y ∧ y ≤ 60)
  · obtain ⟨m, rfl, hm⟩ : ∃ m : Nat, y = (m : Int) ∧ m ≤ 60 := ⟨y.toNat, by omega, by omega⟩
    obtain ⟨M1, e1, hR1, hr1, hA1⟩ := s_copyFrom (n := n) (E := E) hS.yea hS.now hC.1 hN (by omega) (by omega) (fun j hj t ht => ((hC.2.2 j hj).1 t ht).1)
    have hC1 : CN S M1 B (B + 39) N Ls := hC.copy hR1 hr1 hA1 (fun b j q => by unfold nCells at q; omega)
    have hA2 : zAg (fun b j => b = B + 0 ∧ j = 14) M1 (setI M1 (B + 0) 14 (iI 1)) := zAg.rfl'.setI ⟨rfl, rfl⟩
    have hC2 : CN S (setI M1 (B + 0) 14 (iI 1)) B (B + 39) N Ls := hC1.ag hA2 (fun b j q => by omega)
    obtain ⟨M3, e3, hC3, hA3⟩ := years_c (n := n) (E := E) hS (by omega) hm m 0 n N x 0 (setI M1 (B + 0) 14 (iI 1)) (by omega) (by omega) hN hh c.1.1 (by omega) (by omega) (by omega) hC2
    obtain ⟨o1, o2, o3⟩ := yrV_ok (Ls := Ls) m N x 0 hN hh (by omega)
    have hA03 : zAg (fun b j => cScr B b j ∨ (B + 39 ≤ b ∧ b < B + 51) ∨ (b = B + 0 ∧ j = 14)) M M3 := by
      refine ((hA1.mono (fun b j q => ?_)).trans (hA2.mono (fun b j q => ?_))).trans (hA3.mono (fun b j q => ?_))
      · unfold nCells at q; right; left; omega
      · right; right; exact q
      · unfold yeX at q; rcases q with q | q
        · exact Or.inl q
        · right; left; exact q
    refine Ag1.acc (n := n) (E := E) h (v := (yrV Ls m N x 0).2) o3.1 (by omega) (M1 := M3) ?_ (fun j => (hA03 _ _ (fun q => by unfold cScr at q; omega)).1) (fun j => (hA03 _ _ (fun q => by unfold cScr at q; omega)).1) ?_
    · show F_NC_years n E S (B + 0) (iI x) (iI (m : Int)) M = _
      unfold F_NC_years
      rw [wc, obs, if_pos (decide_eq_true c.1), wd, obs, if_pos (decide_eq_true c.2), hS.g0_3, obs, hS.g0_0, obs, hS.yea.ck, obs, e1, obs, hS.z01, obs, hS.g0_10, obs, hS.ck80, obs]
      unfold F_De_runYears F_De_runYears_b10
      have e3' : zfix (fun r10 s => F_De_runYears_L10 n E S r10 s.1 s.2.1 s.2.2.1 s.2.2.2.1 s.2.2.2.2.1 s.2.2.2.2.2.1 s.2.2.2.2.2.2) n (B + 80, B + 39, iI (m : Int), jJ x, 0, 0, setI M1 (B + 0) 14 1) = some (iI (yrV Ls m N x 0).2, M3) := e3
      rw [xJ hx.1 hx.2, e3', obs, be_]
    · -- the model
      have hA04 : zAg (fun b j => (cScr B b j ∨ (B + 39 ≤ b ∧ b < B + 51) ∨ (b = B + 0 ∧ j = 14)) ∨ (b = B + 0 ∧ j = 15) ∨ (b = B + 105 ∧ j = 0)) M (setI (setI M3 (B + 0) 15 (iI 0)) (B + 105) 0 (iI 0)) := by
        refine ((hA03.mono (fun b j q => Or.inl q)).setI ?_).setI ?_
        · right; left; exact ⟨rfl, rfl⟩
        · right; right; exact ⟨rfl, rfl⟩
      have hM4 : MN (setI (setI M3 (B + 0) 15 (iI 0)) (B + 105) 0 (iI 0)) B N Ls := hM.ag hA04 (fun j q => by unfold cScr at q; omega) (fun q => by unfold cScr at q; omega)
      obtain ⟨M5, e5, hM5, h5, hA5⟩ := paper_in (n := n) (E := E) hS (by omega) hM4
      have hA6 : zAg (fun b j => b = B + 105 ∧ j = 54) M5 (setJ M5 (B + 105) 54 (jJ x)) := zAg.rfl'.setJ ⟨rfl, rfl⟩
      obtain ⟨M7, e7, hM7, hA7⟩ := years_l (n := n) (E := E) hS (by omega) hm m 0 n N x 0 (setJ M5 (B + 105) 54 (jJ x)) (by omega) (by omega) hN hh c.1.1 (by omega) (by omega) (by omega) (hM5.ag hA6 (fun j q => by omega) (fun q => by omega)) (by rw [mJ_ite, if_pos ⟨rfl, rfl⟩])
      obtain ⟨M8, e8, g1, g2, g3, hA8⟩ := years_e (n := n) (E := E) hS (by omega) hM7 (v := iI (yrV Ls m N x 0).2)
      obtain ⟨M9, e9, h9, hA9⟩ := s_putBack (n := n) (E := E) (M := M8) (k := 16) hS (by omega) (by decide)
      have hA58 : zAg (fun b j => myX B b j ∨ b = B + 135 ∨ (b = B + 105 ∧ j = 56)) M5 M8 := by
        refine ((hA6.mono (fun b j q => ?_)).trans (hA7.mono (fun b j q => Or.inl q))).trans (hA8.mono (fun b j q => Or.inr q))
        exact Or.inl (Or.inr q)
      have hA49 : zAg (fun b j => (b = B + 110 ∧ 800 ≤ j) ∨ (myX B b j ∨ b = B + 135 ∨ (b = B + 105 ∧ j = 56)) ∨ (b = B + 107 ∧ 4 ≤ j ∧ j < 54)) (setI (setI M3 (B + 0) 15 (iI 0)) (B + 105) 0 (iI 0)) M9 := by
        refine ((hA5.mono (fun b j q => Or.inl q)).trans (hA58.mono (fun b j q => Or.inr (Or.inl q)))).trans (hA9.mono (fun b j q => Or.inr (Or.inr q)))
      have hrow : ∀ j, mI M9 (B + 107) j = mI M (B + 107) j := fun j => by
        by_cases cj : 4 ≤ j ∧ j < 54
        · have e := h9 (j - 4) (by omega)
          rw [show 4 + (j - 4) = j by omega] at e
          have e2 := h5 (j - 4) (by omega)
          rw [show 4 + (j - 4) = j by omega] at e2
          have e4 : mI M8 (B + 110) (50 * 16 + (j - 4)) = mI M5 (B + 110) (800 + (j - 4)) := (hA58 _ _ (fun q => by unfold myX paX fScr mScr at q; omega)).1
          rw [e, e4, e2, (hA04 _ _ (fun q => by unfold cScr at q; omega)).1]
        · rw [(hA49 _ _ (fun q => by unfold myX paX fScr mScr at q; omega)).1, (hA04 _ _ (fun q => by unfold cScr at q; omega)).1]
      have hA09 : zAg (fun b j => ((cScr B b j ∨ (B + 39 ≤ b ∧ b < B + 51) ∨ (b = B + 0 ∧ j = 14)) ∨ (b = B + 0 ∧ j = 15) ∨ (b = B + 105 ∧ j = 0)) ∨ ((b = B + 110 ∧ 800 ≤ j) ∨ (myX B b j ∨ b = B + 135 ∨ (b = B + 105 ∧ j = 56)) ∨ (b = B + 107 ∧ 4 ≤ j ∧ j < 54))) M M9 := (hA04.mono (fun b j q => Or.inl q)).trans (hA49.mono (fun b j q => Or.inr q))
      have hA39 : zAg (fun b j => ((b = B + 0 ∧ j = 15) ∨ (b = B + 105 ∧ j = 0)) ∨ ((b = B + 110 ∧ 800 ≤ j) ∨ (myX B b j ∨ b = B + 135 ∨ (b = B + 105 ∧ j = 56)) ∨ (b = B + 107 ∧ 4 ≤ j ∧ j < 54))) M3 M9 := by
        refine (((zAg.rfl' (M := M3)).setI ?_).setI ?_).trans (hA49.mono (fun b j q => Or.inr q))
        · left; left; exact ⟨rfl, rfl⟩
        · left; right; exact ⟨rfl, rfl⟩
      have e0 : iaI 0 = 14 := rfl
      have e1 : iaI 1 = 26 := rfl
      refine ⟨M9, ?_, ?_, fun j => (hA39 _ _ (fun q => by unfold myX paX fScr mScr at q; omega)).1, fun j => (hA39 _ _ (fun q => by unfold myX paX fScr mScr at q; omega)).1, ⟨hS, hZ, ⟨N, Ls, hC.ag hA09 (fun b j q => by unfold cScr myX paX fScr mScr at q; omega), ⟨?_, hM.2.1.cg (fun i _ => hrow i), hN, fun j hj hl => (hM.2.2.2 j hj hl).cg (fun i _ _ => hrow i)⟩, hh, hP.ag hA09 (fun q => by unfold cScr myX paX fScr mScr at q; omega) (fun j q => by unfold cScr myX paX fScr mScr at q; omega) (fun q => by unfold cScr myX paX fScr mScr at q; omega) (fun j _ q => by unfold cScr myX paX fScr mScr at q; omega) (fun j q => by unfold cScr myX paX fScr mScr at q; omega)⟩, hI0.ag (by decide) hA09 (fun q => by unfold cScr myX paX fScr mScr at q; omega) (fun q => by unfold cScr myX paX fScr mScr at q; omega) (fun j q => by unfold cScr myX paX fScr mScr at q; omega) (fun b j q => by unfold cScr myX paX fScr mScr at q; omega), hI1.ag (by decide) hA09 (fun q => by unfold cScr myX paX fScr mScr at q; omega) (fun q => by unfold cScr myX paX fScr mScr at q; omega) (fun j q => by unfold cScr myX paX fScr mScr at q; omega) (fun b j q => by unfold cScr myX paX fScr mScr at q; omega), hT.ag hA09 (fun q => by unfold cScr myX paX fScr mScr at q; omega) (fun j q => by unfold cScr myX paX fScr mScr at q; omega) (fun q => by unfold cScr myX paX fScr mScr at q; omega) (fun j q => by unfold cScr myX paX fScr mScr at q; omega), Or.inr ⟨?_, (yrV Ls m N x 0).1, o1, ?_, ?_, fun r hr => ?_, fun b hb => ?_⟩, hCo.ag hA09 (fun j q => by unfold cScr myX paX fScr mScr at q; omega) (fun b j _ q => by unfold cScr myX paX fScr mScr at q; omega)⟩, Msc.of h hA09 (fun j _ _ q => by unfold cScr myX paX fScr mScr at q; omega) (fun j _ q => by unfold cScr myX paX fScr mScr at q; omega)⟩
      · show F_Mo_years n E S (B + 105) (iI x) (iI (m : Int)) _ = _
        unfold F_Mo_years F_Mo_years_b52
        have e7' : zfix (fun r52 s => F_Mo_years_L52 n E S r52 s.1 s.2.1 s.2.2.1 s.2.2.2.1 s.2.2.2.2) n (B + 105, iI (m : Int), iI 0, iI 0, setJ M5 (B + 105) 54 (jJ x)) = F_Mo_years_b182 n E S (B + 105) (iI (yrV Ls m N x 0).2) M7 := e7
        have e9' : F_Mo_putBack n E S (B + 105) (iI 16) M8 = some M9 := e9
        rw [iL0, hS.p105, obs, mc, obs, if_pos (decide_eq_true c.1), md, obs, if_pos (decide_eq_true c.2), hS.ck105, obs, iL16, e5, obs, xJ hx.1 hx.2, hS.pj105, obs, e7', e8, e9', obs, be_]
      · exact (hA49 _ _ (fun q => by unfold myX paX fScr mScr at q; omega)).1.trans ((mI_a (by omega)).trans mI_s)
      · rw [(hA09 _ _ (fun q => by unfold cScr myX paX fScr mScr at q; omega)).1]; exact hM.1
      · rw [(hA39 _ _ (fun q => by unfold myX paX fScr mScr at q; omega)).1, (hA3 _ _ (fun q => by unfold yeX cScr at q; omega)).1, mI_s]; rfl
      · exact hC3.1.ag hA39 (fun b j q1 q2 q => by unfold myX paX fScr mScr at q; omega)
      · rw [(hA9 _ _ (fun q => by omega)).1, g3]
      · exact ⟨by rw [(hA9 _ _ (fun q => by omega)).1]; exact (g1 r hr).1, by rw [(hA9 _ _ (fun q => by omega)).1]; exact (g1 r hr).2⟩
      · rw [(hA9 _ _ (fun q => by omega)).1]; exact g2 b hb
  · refine Ag1.rf (n := n) (E := E) h (code := -1) (Or.inl rfl) ?_ (fun M1 hA => ?_)
    · show F_NC_years n E S (B + 0) (iI x) (iI y) M = _
      unfold F_NC_years F_NC_years_b21
      rw [wc, obs]
      by_cases c1 : 0 ≤ x ∧ x ≤ 1000000
      · rw [if_pos (decide_eq_true c1), wd, obs, if_neg (fun q => c ⟨c1, of_decide_eq_true q⟩), hS.ck0, obs, be_]; rfl
      · rw [if_neg (fun q => c1 (of_decide_eq_true q)), hS.ck0, obs, be_]; rfl
    · show F_Mo_years n E S (B + 105) (iI x) (iI y) M1 = _
      unfold F_Mo_years F_Mo_years_b29
      rw [iL0, hS.p105, obs, mc, obs]
      by_cases c1 : 0 ≤ x ∧ x ≤ 1000000
      · rw [if_pos (decide_eq_true c1), md, obs, if_neg (fun q => c ⟨c1, of_decide_eq_true q⟩), hS.ck105, obs, be_]; rfl
      · rw [if_neg (fun q => c1 (of_decide_eq_true q)), hS.ck105, obs, be_]; rfl
end
