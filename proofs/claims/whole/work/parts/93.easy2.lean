/-! CASES (2) -/
section
variable {n : Nat} {E : zE} {S : zS} {M : zH} {B : Nat} {N : Nt} {Ls : Nat → Lw}
theorem Ag1.same {f g : zH → Option (Int32 × zH)} (h : Inv S M B) (r : Int32) (hf : f M = some (r, M)) (hg : g M = some (r, setI M (B + 105) 0 (iI 0))) : Ag1 S B M f g := Ag1.q h hf zAg.rfl' hg mQ_0
theorem c_peas (h : Inv S M B) : Ag1 S B M (fun M => F_NC_peas n E S (B + 0) M) (fun M => F_Mo_peas n E S (B + 105) M) := by
  have hS := h.1
  have hm := h.2.2.2.2.2.2.1.1.2.1
  refine Ag1.same h (mI M (B + 0) 16) ?_ ?_
  · show F_NC_peas n E S (B + 0) M = _
    unfold F_NC_peas; rw [hS.i0, obs]
  · show F_Mo_peas n E S (B + 105) M = _
    unfold F_Mo_peas; rw [iL0, hS.p105, obs, hS.i105, obs, mI_i (by decide), hm]
theorem c_fault (h : Inv S M B) : Ag1 S B M (fun M => F_NC_fault n E S (B + 0) M) (fun M => F_Mo_fault n E S (B + 105) M) := by
  have hS := h.1
  have hm := h.2.2.2.2.2.2.1.1.2.2.1
  refine Ag1.same h (mI M (B + 0) 17) ?_ ?_
  · show F_NC_fault n E S (B + 0) M = _
    unfold F_NC_fault; rw [hS.i0, obs]
  · show F_Mo_fault n E S (B + 105) M = _
    unfold F_Mo_fault; rw [iL0, hS.p105, obs, hS.i105, obs, mI_i (by decide), hm]
theorem c_stopped (h : Inv S M B) : Ag1 S B M (fun M => F_NC_stopped n E S (B + 0) M) (fun M => F_Mo_stopped n E S (B + 105) M) := by
  have hS := h.1
  have hm := h.2.2.2.2.2.2.1.1.2.2.2
  refine Ag1.same h (mI M (B + 0) 18) ?_ ?_
  · show F_NC_stopped n E S (B + 0) M = _
    unfold F_NC_stopped; rw [hS.i0, obs]
  · show F_Mo_stopped n E S (B + 105) M = _
    unfold F_Mo_stopped; rw [iL0, hS.p105, obs, hS.i105, obs, mI_i (by decide), hm]
theorem c_status (h : Inv S M B) : Ag1 S B M (fun M => F_NC_status n E S (B + 0) M) (fun M => F_Mo_status n E S (B + 105) M) := by
  have hS := h.1
  have hm := h.2.2.2.2.2.2.1.1.1
  refine Ag1.same h (mI M (B + 0) 15) ?_ ?_
  · show F_NC_status n E S (B + 0) M = _
    unfold F_NC_status; rw [hS.i0, obs]
  · show F_Mo_status n E S (B + 105) M = _
    unfold F_Mo_status; rw [iL0, hS.p105, obs, hS.i105, obs, mI_i (by decide), hm]
def ofV (x z : Int) (N : Nt) (Ls : Nat → Lw) : Int := if 0 ≤ x ∧ x ≤ N 11 0 - 1 then (if z = 0 then N 3 x.toNat else if z = 1 then N 4 x.toNat else if z = 2 then N 5 x.toNat else if z = 3 then leakV N Ls x else if z = 4 then payV N Ls x (N 5 x.toNat) else if 5 ≤ z ∧ z ≤ 12 then (if barV N Ls x (z - 5) = 1 then 1 else 0) else -1) else -1
theorem fc_of (hS : ShOK S B) (hC : CN S M B (B + 1) N Ls) (hn : 100000 ≤ n) {x z : Int} (hx : zR x) (hz : zR z) : ∃ M', F_NC_of n E S (B + 0) (iI x) (iI z) M = some (iI (ofV x z N Ls), M') ∧ zAg (cQ B) M M' := by
  have hI := nA1.ni hS
  have hN := hC.2.1
  have hz1 := hz.1
  have hz2 := hz.2
  have hb := hN.nb
  unfold F_NC_of ofV
  rw [hS.g0_0, obs, hI.ck, obs, s_hasBucket hI hC.1 hN hx, obs]
  by_cases hr : 0 ≤ x ∧ x ≤ N 11 0 - 1
  · have hf := hN.fie (k := x.toNat) (by omega)
    rw [if_pos (decide_eq_true hr), if_pos hr]
    simp (disch := omega) only [iL0, iL1, iL2, iL3, iL4, xeq]
    by_cases z0 : z = 0
    · rw [if_pos z0, if_pos z0, hI.g3, obs, hI.r3 hC.1 hr.1 (by omega), obs]; exact ⟨M, rfl, zAg.rfl'⟩
    rw [if_neg z0, if_neg z0]
    by_cases z1 : z = 1
    · rw [if_pos z1, if_pos z1, hI.g4, obs, hI.r4 hC.1 hr.1 (by omega), obs]; exact ⟨M, rfl, zAg.rfl'⟩
    rw [if_neg z1, if_neg z1]
    by_cases z2 : z = 2
    · rw [if_pos z2, if_pos z2, hI.g5, obs, hI.r5 hC.1 hr.1 (by omega), obs]; exact ⟨M, rfl, zAg.rfl'⟩
    rw [if_neg z2, if_neg z2]
    by_cases z3 : z = 3
    · obtain ⟨M1, e1, hA1⟩ := s_leakOf (n := n) (E := E) hS nA1 hC (by omega) hr.1 (show x < 3 by omega)
      rw [if_pos z3, if_pos z3, hS.g0_9, obs, hS.ck76, obs, e1, obs]; exact ⟨M1, rfl, cQ_c hA1⟩
    rw [if_neg z3, if_neg z3]
    by_cases z4 : z = 4
    · obtain ⟨M1, e1, hA1⟩ := s_payOf (n := n) (E := E) hS nA1 hC (by omega) hr.1 (show x < 3 by omega) hf.1 hf.2
      rw [if_pos z4, if_pos z4, hS.g0_9, obs, hI.g5, obs, hI.r5 hC.1 hr.1 (by omega), obs, hS.ck76, obs, e1, obs]; exact ⟨M1, rfl, cQ_c hA1⟩
    rw [if_neg z4, if_neg z4, show (5 : Int32) = iI 5 by decide, show (12 : Int32) = iI 12 by decide, s_withinI hz (zR_of (by omega) (by omega)) (zR_of (by omega) (by omega)), obs]
    by_cases z5 : 5 ≤ z ∧ z ≤ 12
    · obtain ⟨M1, e1, hA1⟩ := s_isBarred (n := n) (E := E) hS nA1 hC (by omega) hr.1 (show x < 3 by omega) (show 0 ≤ z - 5 by omega) (by omega)
      rw [if_pos (decide_eq_true z5), if_pos z5]
      unfold F_NC_barredAsNumber
      rw [hS.g0_9, obs, hS.g0_0, obs, hS.ck76, obs, iI_sub, e1, obs]
      by_cases c : barV N Ls x (z - 5) = 1
      · rw [if_pos c, if_pos (decide_eq_true c)]; exact ⟨M1, rfl, cQ_c hA1⟩
      · rw [if_neg c, if_neg (fun q => c (of_decide_eq_true q))]; exact ⟨M1, rfl, cQ_c hA1⟩
    · rw [if_neg (fun q => z5 (of_decide_eq_true q)), if_neg z5]; exact ⟨M, rfl, zAg.rfl'⟩
  · rw [if_neg (fun q => hr (of_decide_eq_true q)), if_neg hr]; exact ⟨M, rfl, zAg.rfl'⟩
theorem fm_of (hS : ShOK S B) (hn : 100000 ≤ n) {x z : Int} (hx : zR x) (hz : zR z) (hM' : MN M B N Ls) : ∃ M', F_Mo_of n E S (B + 105) (iI x) (iI z) M = some (iI (ofV x z N Ls), M') ∧ zAg (mQ B) M M' := by
  have hM := hM'.mq (mQ_0 (M := M))
  have hN := hM'.2.2.1
  have hz1 := hz.1
  have hz2 := hz.2
  have hb := hN.nb
  unfold F_Mo_of ofV
  rw [iL0, hS.p105, obs, hS.ck105, obs, s_mBucket hS hM.2.1 hN hx, obs]
  by_cases hr : 0 ≤ x ∧ x ≤ N 11 0 - 1
  · have hf := hN.fie (k := x.toNat) (by omega)
    rw [if_pos (decide_eq_true hr), if_pos hr, xJ hz1 hz2, jL0, show (12 : Int64) = jJ 12 by decide, s_in (by omega) (by omega) (by omega) (by omega) (by omega) (by omega), obs]
    by_cases zz : 0 ≤ z ∧ z ≤ 12
    · rw [if_pos (decide_eq_true zz)]
      simp (disch := omega) only [iL1, iL2, iL3, iL4, xeq]
      by_cases z0 : z = 0
      · rw [if_pos z0, if_pos z0, hS.g105_3, obs, show (54 : Int32) = iI 54 by decide, iI_add, hS.r107 (by omega) (by omega), obs, hM.2.1.siz hr.1 (by omega)]; exact ⟨_, rfl, mQ_0⟩
      rw [if_neg z0, if_neg z0]
      by_cases z1 : z = 1
      · rw [if_pos z1, if_pos z1, hS.g105_3, obs, show (48 : Int32) = iI 48 by decide, iI_add, hS.r107 (by omega) (by omega), obs, hM.2.1.lev hr.1 (by omega)]; exact ⟨_, rfl, mQ_0⟩
      rw [if_neg z1, if_neg z1]
      by_cases z2 : z = 2
      · rw [if_pos z2, if_pos z2, hS.g105_3, obs, show (51 : Int32) = iI 51 by decide, iI_add, hS.r107 (by omega) (by omega), obs, hM.2.1.fie hr.1 (by omega)]; exact ⟨_, rfl, mQ_0⟩
      rw [if_neg z2, if_neg z2]
      by_cases z3 : z = 3
      · obtain ⟨M1, e1, hA1⟩ := s_mleaks (n := n) (E := E) hS hM (by omega) hr.1 (show x < 3 by omega)
        rw [if_pos z3, if_pos z3, e1, obs]; exact ⟨M1, rfl, mQ_0.trans (mQ_m hA1)⟩
      rw [if_neg z3, if_neg z3]
      by_cases z4 : z = 4
      · obtain ⟨M1, e1, hA1⟩ := s_mpays (n := n) (E := E) hS hM (by omega) hr.1 (show x < 3 by omega) hf.1 hf.2
        rw [if_pos z4, if_pos z4, hS.g105_3, obs, show (51 : Int32) = iI 51 by decide, iI_add, hS.r107 (by omega) (by omega), obs, hM.2.1.fie hr.1 (by omega), e1, obs]; exact ⟨M1, rfl, mQ_0.trans (mQ_m hA1)⟩
      rw [if_neg z4, if_neg z4, if_pos (show 5 ≤ z ∧ z ≤ 12 by omega), show (5 : Int32) = iI 5 by decide, iI_sub]
      obtain ⟨M1, e1, hA1⟩ := s_mbarred (n := n) (E := E) hS hM (by omega) hr.1 (show x < 3 by omega) (show 0 ≤ z - 5 by omega) (by omega)
      rw [e1, obs]
      by_cases c : barV N Ls x (z - 5) = 1
      · rw [if_pos c, if_pos (decide_eq_true c)]; exact ⟨M1, rfl, mQ_0.trans (mQ_m hA1)⟩
      · rw [if_neg c, if_neg (fun q => c (of_decide_eq_true q))]; exact ⟨M1, rfl, mQ_0.trans (mQ_m hA1)⟩
    · rw [if_neg (fun q => zz (of_decide_eq_true q)), if_neg (show ¬ z = 0 by omega), if_neg (show ¬ z = 1 by omega), if_neg (show ¬ z = 2 by omega), if_neg (show ¬ z = 3 by omega), if_neg (show ¬ z = 4 by omega), if_neg (show ¬ (5 ≤ z ∧ z ≤ 12) by omega)]
      exact ⟨_, rfl, mQ_0⟩
  · rw [if_neg (fun q => hr (of_decide_eq_true q)), if_neg hr]; exact ⟨_, rfl, mQ_0⟩
theorem c_of (h : Inv S M B) (hn : 100000 ≤ n) {x z : Int} (hx : zR x) (hz : zR z) : Ag1 S B M (fun M => F_NC_of n E S (B + 0) (iI x) (iI z) M) (fun M => F_Mo_of n E S (B + 105) (iI x) (iI z) M) :=
  Ag1.qq h (ofV x z) (fun N Ls hC => fc_of h.1 hC hn hx hz) (fun M N Ls hM => fm_of h.1 hn hx hz hM)
/-- how many of the first i fields get fewer -/
def fewF (N : Nt) (Ls : Nat → Lw) (x : Int) : Nat → Int := zsum (fun f => if flowV N Ls f < flowV N Ls x then 1 else 0)
theorem c_luck (h : Inv S M B) (hn : 100000 ≤ n) {x : Int} (hx : zR x) : Ag1 S B M (fun M => F_NC_luck n E S (B + 0) (iI x) M) (fun M => F_Mo_luck n E S (B + 105) (iI x) M) := by
  have hS := h.1
  refine Ag1.qq h (fun N Ls => if 0 ≤ x ∧ x ≤ 7 then fewF N Ls x 8 else -1) (fun N Ls hC => ?_) (fun M N Ls hM => ?_)
  · show ∃ M', F_NC_luck n E S (B + 0) (iI x) M = _ ∧ _
    have hN := hC.2.1
    unfold F_NC_luck
    rw [s_isField hx, obs]
    by_cases hr : 0 ≤ x ∧ x ≤ 7
    · obtain ⟨M1, e1, hA1⟩ := s_threadsOn (n := n) (E := E) hS nA1 hC (by omega) hr.1 (show x < 8 by omega)
      rw [if_pos (decide_eq_true hr), if_pos hr, hS.g0_9, obs, hS.g0_0, obs, hS.ck76, obs, e1, obs]
      unfold F_NC_luck_b27
      obtain ⟨s', m, ⟨M2, hs', hA2⟩, e⟩ := zfix_inv (F := fun r27 s => F_NC_luck_L27 n E S r27 s.1 s.2.1 s.2.2.1 s.2.2.2.1 s.2.2.2.2) (fun i s => ∃ M2, s = (B + 0, iI (flowV N Ls x), iI (fewF N Ls x i), iI (i : Int), M2) ∧ zAg (cScr B) M M2) 8 (fun i hi s hI' => by
        obtain ⟨M2, rfl, hA2⟩ := hI'
        have hC2 := hC.scr nA1 hA2
        obtain ⟨M3, e3, hA3⟩ := s_threadsOn (n := n) (E := E) (f := (i : Int)) hS nA1 hC2 (by omega) (by omega) (by omega)
        have b1 := flowV_b (Ls := Ls) (f := x) hN
        have b2 := flowV_b (Ls := Ls) (f := (i : Int)) hN
        refine ⟨(B + 0, iI (flowV N Ls x), iI (fewF N Ls x (i + 1)), iI ((i + 1 : Nat) : Int), M3), ⟨M3, rfl, hA2.trans hA3⟩, fun rec => ?_⟩
        show F_NC_luck_L27 n E S rec (B + 0) (iI (flowV N Ls x)) (iI (fewF N Ls x i)) (iI i) M2 = _
        unfold F_NC_luck_L27 F_NC_luck_b54
        rw [if_neg (by rw [iL8, xle (by omega) (by omega) (by omega) (by omega)]; omega), hS.g0_9, obs, hS.g0_0, obs, hS.ck76, obs, e3, obs]
        have ef : fewF N Ls x (i + 1) = fewF N Ls x i + (if flowV N Ls i < flowV N Ls x then 1 else 0) := rfl
        rw [ef]
        simp (disch := omega) only [xle]
        by_cases c : flowV N Ls x ≤ flowV N Ls i
        · rw [if_pos c, if_neg (show ¬ flowV N Ls i < flowV N Ls x by omega), iL1, iI_add, Int.add_zero]; rfl
        · rw [if_neg c, if_pos (show flowV N Ls i < flowV N Ls x by omega), iL1, iI_add, iI_add]; rfl) n 0 (B + 0, iI (flowV N Ls x), 0, 0, M1) (by omega) (by omega) ⟨M1, rfl, hA1⟩
      rw [e, hs']
      refine ⟨M2, ?_, cQ_c hA2⟩
      show F_NC_luck_L27 n E S _ (B + 0) (iI (flowV N Ls x)) (iI (fewF N Ls x 8)) (iI (8 : Nat)) M2 = _
      unfold F_NC_luck_L27
      rw [if_pos (by decide)]
    · rw [if_neg (fun q => hr (of_decide_eq_true q)), if_neg hr]
      exact ⟨M, rfl, zAg.rfl'⟩
  · show ∃ M', F_Mo_luck n E S (B + 105) (iI x) M = _ ∧ _
    have hN := hM.2.2.1
    unfold F_Mo_luck
    rw [iL0, hS.p105, obs, s_mField hx, obs]
    by_cases hr : 0 ≤ x ∧ x ≤ 7
    · obtain ⟨M1, e1, hA1, hf1⟩ := s_layFlow (n := n) (E := E) hS (hM.mq mQ_0) (by omega)
      rw [if_pos (decide_eq_true hr), if_pos hr, hS.ck105, obs, e1, obs]
      unfold F_Mo_luck_b22
      have hfx : mI M1 (B + 126) x.toNat = iI (flowV N Ls x) := by rw [hf1 x.toNat (by omega), show ((x.toNat : Nat) : Int) = x by omega]
      obtain ⟨m, e⟩ := zfix_for (F := fun r22 s => F_Mo_luck_L22 n E S r22 s.1 s.2.1 s.2.2.1 s.2.2.2.1 s.2.2.2.2) (fun i => (B + 105, iI x, iI (fewF N Ls x i), iI (i : Int), M1)) 8 (fun i hi rec => by
        have b1 := flowV_b (Ls := Ls) (f := x) hN
        have b2 := flowV_b (Ls := Ls) (f := (i : Int)) hN
        show F_Mo_luck_L22 n E S rec (B + 105) (iI x) (iI (fewF N Ls x i)) (iI i) M1 = _
        unfold F_Mo_luck_L22 F_Mo_luck_b49
        rw [if_neg (by rw [iL8, xle (by omega) (by omega) (by omega) (by omega)]; omega), hS.g105_41, obs, hS.r126 (by omega) (by omega), obs, hS.r126 (by omega) (by omega), obs, hfx, Int.toNat_natCast, hf1 i hi]
        have ef : fewF N Ls x (i + 1) = fewF N Ls x i + (if flowV N Ls i < flowV N Ls x then 1 else 0) := rfl
        rw [ef]
        simp (disch := omega) only [xle]
        by_cases c : flowV N Ls x ≤ flowV N Ls i
        · rw [if_pos c, if_neg (show ¬ flowV N Ls i < flowV N Ls x by omega), iL0, iL1, iI_add, iI_add]; rfl
        · rw [if_neg c, if_pos (show flowV N Ls i < flowV N Ls x by omega), iL1, iI_add, iI_add]; rfl) (k := n) (by omega)
      refine ⟨M1, ?_, mQ_0.trans (mQ_f hA1)⟩
      refine e.trans ?_
      show F_Mo_luck_L22 n E S _ (B + 105) (iI x) (iI (fewF N Ls x 8)) (iI (8 : Nat)) M1 = _
      unfold F_Mo_luck_L22
      rw [if_pos (by decide)]
    · rw [if_neg (fun q => hr (of_decide_eq_true q)), if_neg hr]
      exact ⟨_, rfl, mQ_0⟩
end
