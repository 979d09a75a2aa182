/-! CASES (1) -/
theorem d01 : decide ((0 : Int) = 1) = false := rfl
theorem d11 : decide ((1 : Int) = 1) = true := rfl
theorem bI_t : (bI true = iI 0) = False := by decide
theorem bI_f : (bI false = iI 0) = True := by decide
theorem i10 : (iI 1 = iI 0) = False := by decide
theorem z10 : ((1 : Int) = 0) = False := by decide
section
variable {n : Nat} {E : zE} {S : zS} {M : zH} {B : Nat} {N : Nt} {Ls : Nat → Lw}
theorem e8 {x : Int} (h1 : 0 ≤ x) (h2 : x < 100) : zremI (iI x) (iI 8) = some (iI (x % 8)) := by
  rw [iI_remI (zR_of (by omega) (by omega)) (by omega) (by omega), Int.tmod_eq_emod_of_nonneg h1]
/-- both are queries that answer what is told -/
theorem Ag1.qq {f g : zH → Option (Int32 × zH)} (h : Inv S M B) (V : Nt → (Nat → Lw) → Int) (hf : ∀ N Ls, CN S M B (B + 1) N Ls → ∃ M', f M = some (iI (V N Ls), M') ∧ zAg (cQ B) M M') (hg : ∀ (M : zH) (N : Nt) (Ls : Nat → Lw), MN M B N Ls → ∃ M', g M = some (iI (V N Ls), M') ∧ zAg (mQ B) M M') : Ag1 S B M f g := by
  obtain ⟨hS, hZ, ⟨N, Ls, hC, hM, hh9, hP⟩, _⟩ := id h
  obtain ⟨M1, e1, h1⟩ := hf N Ls hC
  obtain ⟨M2, e2, h2⟩ := hg M1 N Ls (hM.cq h1)
  exact Ag1.q h e1 h1 e2 h2
def holeV (x y z : Int) (N : Nt) (Ls : Nat → Lw) : Int := if 0 ≤ x ∧ x ≤ 3 ∧ 0 ≤ y ∧ y ≤ 7 then (if z = 0 then N 0 (x * 8 + y).toNat else if z = 1 then N 1 (x * 8 + y).toNat else if z = 2 then (y + N 2 x.toNat) % 8 else if z = 3 then (if N 1 (x * 8 + y).toNat = 0 then runsV N Ls x y else 0) else -1) else -1
theorem fc_hole (hS : ShOK S B) (hC : CN S M B (B + 1) N Ls) (hn : 100000 ≤ n) {x y z : Int} (hx : zR x) (hy : zR y) (hz : zR z) : ∃ M', F_NC_hole n E S (B + 0) (iI x) (iI y) (iI z) M = some (iI (holeV x y z N Ls), M') ∧ zAg (cQ B) M M' := by
  have hI := nA1.ni hS
  have hN := hC.2.1
  have hz1 := hz.1
  have hz2 := hz.2
  unfold F_NC_hole holeV
  rw [s_isRing hx, Option.bind_some]
  by_cases hr : 0 ≤ x ∧ x ≤ 3
  · by_cases hh : 0 ≤ y ∧ y ≤ 7
    · have hk := hN.blk (k := (x * 8 + y).toNat) (by omega)
      rw [if_pos (decide_eq_true hr), s_isHole hy, Option.bind_some, if_pos (decide_eq_true hh), if_pos (show 0 ≤ x ∧ x ≤ 3 ∧ 0 ≤ y ∧ y ≤ 7 from ⟨hr.1, hr.2, hh.1, hh.2⟩)]
      simp (disch := omega) only [↓reduceIte, obs, if_true, if_false, decide_true, decide_false, Bool.false_eq_true, d01, iL0, iL1, iL2, iL3, iL8, iI_add, iI_sub, iI_mul, iI_neg, xle, xlt, xeq, hS.g0_0, hS.g0_9, hS.ck76, hI.g0, hI.g1, hI.ck, hI.r0 hC.1, hI.r1 hC.1, s_fieldBelow hI hC.1 hN]
      by_cases z0 : z = 0
      · simp only [if_pos z0]; exact ⟨M, rfl, zAg.rfl'⟩
      by_cases z1 : z = 1
      · simp only [if_neg z0, if_pos z1]
        rcases hk with hk | hk
        · simp only [hk, if_true]; exact ⟨M, rfl, zAg.rfl'⟩
        · simp only [hk, i10, z10, if_false]; exact ⟨M, rfl, zAg.rfl'⟩
      by_cases z2 : z = 2
      · simp only [if_neg z0, if_neg z1, if_pos z2]; exact ⟨M, rfl, zAg.rfl'⟩
      by_cases z3 : z = 3
      · simp only [if_neg z0, if_neg z1, if_neg z2, if_pos z3]
        rcases hk with hk | hk
        · obtain ⟨M1, e1, hA1⟩ := s_runsOf (n := n) (E := E) hS nA1 hC (by omega) hr.1 (show x < 4 by omega) hh.1 (show y < 8 by omega)
          simp only [hk, if_true, e1, Option.bind_some]
          exact ⟨M1, rfl, cQ_c hA1⟩
        · simp only [hk, i10, z10, if_false]; exact ⟨M, rfl, zAg.rfl'⟩
      · simp only [if_neg z0, if_neg z1, if_neg z2, if_neg z3]; exact ⟨M, rfl, zAg.rfl'⟩
    · rw [if_pos (decide_eq_true hr), s_isHole hy, Option.bind_some, if_neg (fun q => hh (of_decide_eq_true q)), if_neg (show ¬ (0 ≤ x ∧ x ≤ 3 ∧ 0 ≤ y ∧ y ≤ 7) by omega)]
      exact ⟨M, rfl, zAg.rfl'⟩
  · rw [if_neg (fun q => hr (of_decide_eq_true q)), if_neg (show ¬ (0 ≤ x ∧ x ≤ 3 ∧ 0 ≤ y ∧ y ≤ 7) by omega)]
    exact ⟨M, rfl, zAg.rfl'⟩
theorem fm_hole (hS : ShOK S B) (hn : 100000 ≤ n) {x y z : Int} (hx : zR x) (hy : zR y) (hz : zR z) (hM : MN M B N Ls) : ∃ M', F_Mo_hole n E S (B + 105) (iI x) (iI y) (iI z) M = some (iI (holeV x y z N Ls), M') ∧ zAg (mQ B) M M' := by
  have hM0 := hM.mq (mQ_0 (M := M))
  have hN := hM.2.2.1
  have hz1 := hz.1
  have hz2 := hz.2
  unfold F_Mo_hole holeV
  rw [iL0, hS.p105, Option.bind_some, s_mRing hx, Option.bind_some]
  by_cases hr : 0 ≤ x ∧ x ≤ 3
  · by_cases hh : 0 ≤ y ∧ y ≤ 7
    · have hk := hN.blk (k := (x * 8 + y).toNat) (by omega)
      have ht := hN.turn (k := x.toNat) (by omega)
      have hk2 : N 1 (8 * x.toNat + y.toNat) = N 1 (x * 8 + y).toNat := by congr 1; omega
      rw [if_pos (decide_eq_true hr), s_mField hy, Option.bind_some, if_pos (decide_eq_true hh), if_pos (show 0 ≤ x ∧ x ≤ 3 ∧ 0 ≤ y ∧ y ≤ 7 from ⟨hr.1, hr.2, hh.1, hh.2⟩)]
      simp (disch := omega) only [↓reduceIte, obs, if_true, if_false, decide_true, decide_false, Bool.false_eq_true, d01, iL1, iL2, iL3, iL8, iL44, show (12 : Int32) = iI 12 by decide, iI_add, iI_sub, iI_mul, iI_neg, xle, xlt, xeq, hS.g105_3, hS.r107, hM0.2.1.turn, hM0.2.1.blk, hM0.2.1.bore, s_is hN, e8, hk2]
      by_cases z0 : z = 0
      · simp only [if_pos z0]; exact ⟨_, rfl, mQ_0⟩
      by_cases z1 : z = 1
      · simp only [if_neg z0, if_pos z1]
        rcases hk with hk | hk
        · simp only [hk, d01, d11, bI_t, bI_f, z10, if_true, if_false]; exact ⟨_, rfl, mQ_0⟩
        · simp only [hk, d01, d11, bI_t, bI_f, z10, if_true, if_false]; exact ⟨_, rfl, mQ_0⟩
      by_cases z2 : z = 2
      · simp only [if_neg z0, if_neg z1, if_pos z2]; exact ⟨_, rfl, mQ_0⟩
      by_cases z3 : z = 3
      · simp only [if_neg z0, if_neg z1, if_neg z2, if_pos z3]
        rcases hk with hk | hk
        · obtain ⟨M1, e1, hA1⟩ := s_mruns (n := n) (E := E) hS hM0 (by omega) hr.1 (show x < 4 by omega) hh.1 (show y < 8 by omega) (show 0 ≤ (y + N 2 x.toNat) % 8 by omega) (by omega)
          rw [← runsV_F] at e1
          simp only [hk, d01, bI_f, if_true, e1, Option.bind_some]
          exact ⟨M1, rfl, mQ_0.trans (mQ_m hA1)⟩
        · simp only [hk, d01, d11, bI_t, bI_f, z10, if_true, if_false]; exact ⟨_, rfl, mQ_0⟩
      · simp only [if_neg z0, if_neg z1, if_neg z2, if_neg z3]; exact ⟨_, rfl, mQ_0⟩
    · rw [if_pos (decide_eq_true hr), s_mField hy, Option.bind_some, if_neg (fun q => hh (of_decide_eq_true q)), if_neg (show ¬ (0 ≤ x ∧ x ≤ 3 ∧ 0 ≤ y ∧ y ≤ 7) by omega)]
      exact ⟨_, rfl, mQ_0⟩
  · rw [if_neg (fun q => hr (of_decide_eq_true q)), if_neg (show ¬ (0 ≤ x ∧ x ≤ 3 ∧ 0 ≤ y ∧ y ≤ 7) by omega)]
    exact ⟨_, rfl, mQ_0⟩
theorem c_hole (h : Inv S M B) (hn : 100000 ≤ n) {x y z : Int} (hx : zR x) (hy : zR y) (hz : zR z) : Ag1 S B M (fun M => F_NC_hole n E S (B + 0) (iI x) (iI y) (iI z) M) (fun M => F_Mo_hole n E S (B + 105) (iI x) (iI y) (iI z) M) :=
  Ag1.qq h (holeV x y z) (fun N Ls hC => fc_hole h.1 hC hn hx hy hz) (fun M N Ls hM => fm_hole h.1 hn hx hy hz hM)
theorem c_flow (h : Inv S M B) (hn : 100000 ≤ n) {x : Int} (hx : zR x) : Ag1 S B M (fun M => F_NC_flow n E S (B + 0) (iI x) M) (fun M => F_Mo_flow n E S (B + 105) (iI x) M) := by
  have hS := h.1
  refine Ag1.qq h (fun N Ls => if 0 ≤ x ∧ x ≤ 7 then flowV N Ls x else -1) (fun N Ls hC => ?_) (fun M N Ls hM => ?_)
  · unfold F_NC_flow
    rw [s_isField hx, Option.bind_some]
    by_cases hr : 0 ≤ x ∧ x ≤ 7
    · obtain ⟨M1, e1, hA1⟩ := s_threadsOn (n := n) (E := E) hS nA1 hC (by omega) hr.1 (show x < 8 by omega)
      rw [if_pos (decide_eq_true hr), if_pos hr, hS.g0_9, Option.bind_some, hS.g0_0, Option.bind_some, hS.ck76, Option.bind_some, e1]
      exact ⟨M1, rfl, cQ_c hA1⟩
    · rw [if_neg (fun q => hr (of_decide_eq_true q)), if_neg hr]
      exact ⟨M, rfl, zAg.rfl'⟩
  · unfold F_Mo_flow
    rw [iL0, hS.p105, Option.bind_some, s_mField hx, Option.bind_some]
    by_cases hr : 0 ≤ x ∧ x ≤ 7
    · obtain ⟨M1, e1, hA1⟩ := s_mflow (n := n) (E := E) hS (hM.mq mQ_0) (by omega) hr.1 (show x < 8 by omega)
      rw [if_pos (decide_eq_true hr), if_pos hr, hS.ck105, Option.bind_some, e1]
      exact ⟨M1, rfl, mQ_0.trans (mQ_m hA1)⟩
    · rw [if_neg (fun q => hr (of_decide_eq_true q)), if_neg hr]
      exact ⟨_, rfl, mQ_0⟩
end
