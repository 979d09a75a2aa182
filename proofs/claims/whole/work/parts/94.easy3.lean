/-! CASES (3) -/
section
variable {n : Nat} {E : zE} {S : zS} {M : zH} {B : Nat} {N : Nt} {Ls : Nat → Lw}
theorem fmod8 {x : Int} (h1 : -1000000 ≤ x) (h2 : x ≤ 1000000) : F_Jm_floorMod n E S (iI x) (iI 8) M = some (iI (x % 8), M) := s_floorMod n E S M (zR_of (by omega) (by omega)) (by decide) (by decide)
def togV (x y : Int) : Int := if (0 ≤ x ∧ x ≤ 3) ∧ (0 ≤ y ∧ y ≤ 3) ∧ x ≠ y then (if x - y = 2 ∨ x - y = -2 then 4 else 8) else -1
theorem tog_c {x y : Int} (hn : 100 ≤ n) (hx0 : 0 ≤ x) (hx : x ≤ 3) (hy0 : 0 ≤ y) (hy : y ≤ 3) (hne : x ≠ y) : F_NC_together_b23 n E S (iI x, iI y, iI 1, M) = some (iI (if x - y = 2 ∨ x - y = -2 then 4 else 8), M) := by
  obtain ⟨m, rfl⟩ : ∃ m, n = m + 10 := ⟨n - 10, by omega⟩
  unfold F_NC_together_b23
  have step : ∀ (k : Int) (rec : Int32 × Int32 × Int32 × zH → Option (Int32 × zH)), 1 ≤ k → k ≤ 7 → F_NC_together_L23 (m + 10) E S rec (iI x) (iI y) (iI k) M = if ((x - y) * k) % 8 = 0 then some (iI k, M) else rec (iI x, iI y, iI (k + 1), M) := by
    intro k rec h1 h7
    have hb : -100 ≤ (x - y) * k ∧ (x - y) * k ≤ 100 := by
      rcases (show k = 1 ∨ k = 2 ∨ k = 3 ∨ k = 4 ∨ k = 5 ∨ k = 6 ∨ k = 7 by omega) with rfl | rfl | rfl | rfl | rfl | rfl | rfl <;> omega
    unfold F_NC_together_L23
    rw [if_neg (by rw [iL8, xle (by omega) (by omega) (by omega) (by omega)]; omega), iI_sub, iI_mul, iL8, fmod8 (by omega) (by omega), obs]
    simp (disch := omega) only [iL0, xeq, iL1, iI_add]
  have last : ∀ rec, F_NC_together_L23 (m + 10) E S rec (iI x) (iI y) (iI 8) M = some (iI 8, M) := fun rec => by
    unfold F_NC_together_L23
    rw [if_pos (by decide)]
    rfl
  have go : ∀ (f : Nat) (k : Int), 1 ≤ k → k ≤ 7 → zfix (fun r23 s => F_NC_together_L23 (m + 10) E S r23 s.1 s.2.1 s.2.2.1 s.2.2.2) (f + 1) (iI x, iI y, iI k, M) = if ((x - y) * k) % 8 = 0 then some (iI k, M) else zfix (fun r23 s => F_NC_together_L23 (m + 10) E S r23 s.1 s.2.1 s.2.2.1 s.2.2.2) f (iI x, iI y, iI (k + 1), M) := fun f k h1 h2 => step k _ h1 h2
  have gol : ∀ (f : Nat), zfix (fun r23 s => F_NC_together_L23 (m + 10) E S r23 s.1 s.2.1 s.2.2.1 s.2.2.2) (f + 1) (iI x, iI y, iI 8, M) = some (iI 8, M) := fun f => last _
  have g1 := go (m + 9) 1 (by decide) (by decide)
  have g2 := go (m + 8) 2 (by decide) (by decide)
  have g3 := go (m + 7) 3 (by decide) (by decide)
  have g4 := go (m + 6) 4 (by decide) (by decide)
  have g5 := go (m + 5) 5 (by decide) (by decide)
  have g6 := go (m + 4) 6 (by decide) (by decide)
  have g7 := go (m + 3) 7 (by decide) (by decide)
  have g8 := gol (m + 2)
  rw [g1]
  rw [if_neg (by omega)]
  rw [show (1 : Int) + 1 = 2 from rfl, g2, if_neg (by omega), show (2 : Int) + 1 = 3 from rfl, g3, if_neg (by omega), show (3 : Int) + 1 = 4 from rfl, g4]
  by_cases c : x - y = 2 ∨ x - y = -2
  · rw [if_pos (show (x - y) * 4 % 8 = 0 by omega), if_pos c]
  · rw [if_neg (show ¬ (x - y) * 4 % 8 = 0 by omega), if_neg c, show (4 : Int) + 1 = 5 from rfl, g5, if_neg (by omega), show (5 : Int) + 1 = 6 from rfl, g6, if_neg (by omega), show (6 : Int) + 1 = 7 from rfl, g7, if_neg (by omega), show (7 : Int) + 1 = 8 from rfl, g8]
theorem tm8 {a : Int} : (a.tmod 8 = 0) = (a % 8 = 0) := by
  by_cases h : 0 ≤ a
  · rw [Int.tmod_eq_emod_of_nonneg h]
  · have e := Int.neg_tmod (-a) 8
    have e2 : (-a).tmod 8 = (-a) % 8 := Int.tmod_eq_emod_of_nonneg (by omega)
    rw [Int.neg_neg, e2] at e
    rw [e]
    apply propext
    constructor <;> intro h <;> omega
theorem tog_m {x y : Int} (hn : 100 ≤ n) (hx0 : 0 ≤ x) (hx : x ≤ 3) (hy0 : 0 ≤ y) (hy : y ≤ 3) (hne : x ≠ y) : F_Mo_together_b28 n E S (iI x, iI y, iI 1, M) = some (iI (if x - y = 2 ∨ x - y = -2 then 4 else 8), M) := by
  obtain ⟨m, rfl⟩ : ∃ m, n = m + 10 := ⟨n - 10, by omega⟩
  unfold F_Mo_together_b28
  have step : ∀ (k : Int) (rec : Int32 × Int32 × Int32 × zH → Option (Int32 × zH)), 1 ≤ k → k ≤ 8 → F_Mo_together_L28 (m + 10) E S rec (iI x) (iI y) (iI k) M = if ((x - y) * k) % 8 = 0 then some (iI k, M) else rec (iI x, iI y, iI (k + 1), M) := by
    intro k rec h1 h7
    have hb : -100 ≤ k * (x - y) ∧ k * (x - y) ≤ 100 := by
      rcases (show k = 1 ∨ k = 2 ∨ k = 3 ∨ k = 4 ∨ k = 5 ∨ k = 6 ∨ k = 7 ∨ k = 8 by omega) with rfl | rfl | rfl | rfl | rfl | rfl | rfl | rfl <;> omega
    have ht : zR ((k * (x - y)).tmod 8) := by
      have := Int.natAbs_tmod (k * (x - y)) 8
      have h3 : (k * (x - y)).natAbs % (8 : Int).natAbs < 8 := Nat.mod_lt _ (by decide)
      exact zR_of (by omega) (by omega)
    have ht1 := ht.1
    have ht2 := ht.2
    unfold F_Mo_together_L28
    rw [iI_sub, iI_mul, iL8, iI_remI (zR_of (by omega) (by omega)) (by decide) (by decide), obs]
    simp (disch := omega) only [iL0, xeq, iL1, iI_add, tm8]
    rw [Int.mul_comm]
  have go : ∀ (f : Nat) (k : Int), 1 ≤ k → k ≤ 8 → zfix (fun r23 s => F_Mo_together_L28 (m + 10) E S r23 s.1 s.2.1 s.2.2.1 s.2.2.2) (f + 1) (iI x, iI y, iI k, M) = if ((x - y) * k) % 8 = 0 then some (iI k, M) else zfix (fun r23 s => F_Mo_together_L28 (m + 10) E S r23 s.1 s.2.1 s.2.2.1 s.2.2.2) f (iI x, iI y, iI (k + 1), M) := fun f k h1 h2 => step k _ h1 h2
  have g1 := go (m + 9) 1 (by decide) (by decide)
  have g2 := go (m + 8) 2 (by decide) (by decide)
  have g3 := go (m + 7) 3 (by decide) (by decide)
  have g4 := go (m + 6) 4 (by decide) (by decide)
  have g5 := go (m + 5) 5 (by decide) (by decide)
  have g6 := go (m + 4) 6 (by decide) (by decide)
  have g7 := go (m + 3) 7 (by decide) (by decide)
  have g8 := go (m + 2) 8 (by decide) (by decide)
  rw [g1]
  rw [if_neg (by omega)]
  rw [show (1 : Int) + 1 = 2 from rfl, g2, if_neg (by omega), show (2 : Int) + 1 = 3 from rfl, g3, if_neg (by omega), show (3 : Int) + 1 = 4 from rfl, g4]
  by_cases c : x - y = 2 ∨ x - y = -2
  · rw [if_pos (show (x - y) * 4 % 8 = 0 by omega), if_pos c]
  · rw [if_neg (show ¬ (x - y) * 4 % 8 = 0 by omega), if_neg c, show (4 : Int) + 1 = 5 from rfl, g5, if_neg (by omega), show (5 : Int) + 1 = 6 from rfl, g6, if_neg (by omega), show (6 : Int) + 1 = 7 from rfl, g7, if_neg (by omega), show (7 : Int) + 1 = 8 from rfl, g8, if_pos (by omega)]
theorem c_together (h : Inv S M B) (hn : 100000 ≤ n) {x y : Int} (hx : zR x) (hy : zR y) : Ag1 S B M (fun M => F_NC_together n E S (B + 0) (iI x) (iI y) M) (fun M => F_Mo_together n E S (B + 105) (iI x) (iI y) M) := by
  have hS := h.1
  refine Ag1.same h (iI (togV x y)) ?_ ?_
  · show F_NC_together n E S (B + 0) (iI x) (iI y) M = _
    unfold F_NC_together togV
    rw [s_isRing hx, obs]
    by_cases h1 : 0 ≤ x ∧ x ≤ 3
    · rw [if_pos (decide_eq_true h1), s_isRing hy, obs]
      by_cases h2 : 0 ≤ y ∧ y ≤ 3
      · rw [if_pos (decide_eq_true h2)]
        simp (disch := omega) only [xeq]
        by_cases h3 : x = y
        · rw [if_pos h3, if_neg (fun q => q.2.2 h3)]; rfl
        · rw [if_neg h3, if_pos ⟨h1, h2, h3⟩, iL1]
          exact tog_c (by omega) h1.1 h1.2 h2.1 h2.2 h3
      · rw [if_neg (fun q => h2 (of_decide_eq_true q)), if_neg (fun q => h2 q.2.1)]; rfl
    · rw [if_neg (fun q => h1 (of_decide_eq_true q)), if_neg (fun q => h1 q.1)]; rfl
  · show F_Mo_together n E S (B + 105) (iI x) (iI y) M = _
    unfold F_Mo_together togV
    rw [iL0, hS.p105, obs, s_mRing hx, obs]
    by_cases h1 : 0 ≤ x ∧ x ≤ 3
    · rw [if_pos (decide_eq_true h1), s_mRing hy, obs]
      by_cases h2 : 0 ≤ y ∧ y ≤ 3
      · rw [if_pos (decide_eq_true h2)]
        simp (disch := omega) only [xeq]
        by_cases h3 : x = y
        · rw [if_pos h3, if_neg (fun q => q.2.2 h3)]; rfl
        · rw [if_neg h3, if_pos ⟨h1, h2, h3⟩, iL1]
          exact tog_m (by omega) h1.1 h1.2 h2.1 h2.2 h3
      · rw [if_neg (fun q => h2 (of_decide_eq_true q)), if_neg (fun q => h2 q.2.1)]; rfl
    · rw [if_neg (fun q => h1 (of_decide_eq_true q)), if_neg (fun q => h1 q.1)]; rfl
def setdV (x : Int) (N : Nt) (_ : Nat → Lw) : Int := if 0 ≤ x ∧ x ≤ N 11 0 - 1 then N 4 x.toNat - N 4 x.toNat / 2 + N 4 (if x = 0 then N 11 0 - 1 else x - 1).toNat / 2 else -1
theorem dv2 {x : Int} (h1 : 0 ≤ x) (h2 : x < 1000) : zdivI (iI x) (iI 2) = some (iI (x / 2)) := by
  rw [iI_divI (zR_of (by omega) (by omega)) (by omega) (by omega), Int.tdiv_eq_ediv_of_nonneg h1]
theorem c_settled (h : Inv S M B) (hn : 100000 ≤ n) {x : Int} (hx : zR x) : Ag1 S B M (fun M => F_NC_settled n E S (B + 0) (iI x) M) (fun M => F_Mo_settled n E S (B + 105) (iI x) M) := by
  have hS := h.1
  refine Ag1.qq h (setdV x) (fun N Ls hC => ?_) (fun M N Ls hM' => ?_)
  · show ∃ M', F_NC_settled n E S (B + 0) (iI x) M = _ ∧ _
    have hI := nA1.ni hS
    have hN := hC.2.1
    have hb := hN.nb
    unfold F_NC_settled setdV
    rw [hS.g0_0, obs, hI.ck, obs, s_hasBucket hI hC.1 hN hx, obs]
    by_cases hr : 0 ≤ x ∧ x ≤ N 11 0 - 1
    · have l1 := hN.lev (k := x.toNat) (by omega)
      have s1 := hN.size (k := x.toNat) (by omega)
      have l2 := hN.lev (k := (if x = 0 then N 11 0 - 1 else x - 1).toNat) (by split <;> omega)
      have s2 := hN.size (k := (if x = 0 then N 11 0 - 1 else x - 1).toNat) (by split <;> omega)
      rw [if_pos (decide_eq_true hr), if_pos hr]
      unfold F_NC_settled_b32
      simp (disch := omega) only [iL0, xeq]
      refine ⟨M, ?_, zAg.rfl'⟩
      by_cases c : x = 0
      · simp only [if_pos c] at l2 s2 ⊢
        simp (disch := omega) only [hI.i11 hC.1, obs, iL1, iL2, iI_sub, hS.g0_0, hI.g4, hI.r4 hC.1, dv2, iI_add]
      · simp only [if_neg c] at l2 s2 ⊢
        simp (disch := omega) only [obs, iL1, iL2, iI_sub, hS.g0_0, hI.g4, hI.r4 hC.1, dv2, iI_add]
    · rw [if_neg (fun q => hr (of_decide_eq_true q)), if_neg hr]; exact ⟨M, rfl, zAg.rfl'⟩
  · show ∃ M', F_Mo_settled n E S (B + 105) (iI x) M = _ ∧ _
    have hM := hM'.mq (mQ_0 (M := M))
    have hN := hM'.2.2.1
    have hb := hN.nb
    unfold F_Mo_settled setdV
    rw [iL0, hS.p105, obs, hS.ck105, obs, s_mBucket hS hM.2.1 hN hx, obs]
    by_cases hr : 0 ≤ x ∧ x ≤ N 11 0 - 1
    · have l1 := hN.lev (k := x.toNat) (by omega)
      have s1 := hN.size (k := x.toNat) (by omega)
      have l2 := hN.lev (k := (if x = 0 then N 11 0 - 1 else x - 1).toNat) (by split <;> omega)
      have s2 := hN.size (k := (if x = 0 then N 11 0 - 1 else x - 1).toNat) (by split <;> omega)
      have hm : zremI (iI (x + N 11 0 - 1)) (iI (N 11 0)) = some (iI (if x = 0 then N 11 0 - 1 else x - 1)) := by
        rw [iI_remI (zR_of (by omega) (by omega)) (by omega) (by omega), Int.tmod_eq_emod_of_nonneg (by omega)]
        congr 2
        by_cases c : x = 0
        · rw [if_pos c, c, Int.zero_add, Int.emod_eq_of_lt (by omega) (by omega)]
        · rw [if_neg c, show x + N 11 0 - 1 = (x - 1) + N 11 0 by omega, Int.add_emod_right, Int.emod_eq_of_lt (by omega) (by omega)]
      rw [if_pos (decide_eq_true hr), if_pos hr]
      refine ⟨_, ?_, mQ_0⟩
      generalize hd : (if x = 0 then N 11 0 - 1 else x - 1) = d at *
      have hd0 : 0 ≤ d := by rw [← hd]; split <;> omega
      have hd3 : d < 3 := by rw [← hd]; split <;> omega
      simp (disch := omega) only [obs, iL1, iL2, iI_sub, iI_add, hS.g105_3, hS.r107, tn0, hM.2.1.nb, hm, show (48 : Int32) = iI 48 by decide, hM.2.1.lev, dv2]
    · rw [if_neg (fun q => hr (of_decide_eq_true q)), if_neg hr]; exact ⟨_, rfl, mQ_0⟩
end
