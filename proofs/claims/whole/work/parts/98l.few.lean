/-! CASES (10): worth, few -/
/-- a loop in a loop: the inner one's states don't hang on the outer one -/
theorem zfix_inv2 {ρ σ τ : Type} {F : ρ → (σ → Option τ) → σ → Option τ} (I : Nat → σ → Prop) (N : Nat) (hs : ∀ i, i < N → ∀ s, I i s → ∃ s', I (i + 1) s' ∧ ∀ r rec, F r rec s = rec s') : ∀ (k i : Nat) (s : σ), i ≤ N → N - i < k → I i s → ∃ s', I N s' ∧ ∀ r, ∃ m, zfix (F r) k s = F r (zfix (F r) m) s' := by
  intro k
  induction k with
  | zero => intro i s hi hk; omega
  | succ k ih =>
    intro i s hi hk hI
    by_cases h : i = N
    · subst h; exact ⟨s, hI, fun r => ⟨k, rfl⟩⟩
    · obtain ⟨s', hI', e⟩ := hs i (by omega) s hI
      obtain ⟨s2, h2, e2⟩ := ih (i + 1) s' (by omega) (by omega) hI'
      refine ⟨s2, h2, fun r => ?_⟩
      obtain ⟨m, e3⟩ := e2 r
      exact ⟨m, by rw [← e3]; exact e r _⟩
def fq (r : Int) : Nat → Nat → Int
  | 0, i => if i = 0 then 1000000000000 else 0
  | m + 1, i => fq r m i * (10 - r) / 10 + (if i = 0 then 0 else fq r m (i - 1) * r / 10)
theorem fq_st {x r : Int} (x0 : 0 ≤ x) (x1 : x ≤ 1000000000000) (r0 : 0 ≤ r) (r1 : r ≤ 10) : (0 ≤ x * (10 - r) ∧ x * (10 - r) ≤ 1000000000000 * (10 - r)) ∧ (0 ≤ x * r ∧ x * r ≤ 1000000000000 * r) := by
  rcases (show r = 0 ∨ r = 1 ∨ r = 2 ∨ r = 3 ∨ r = 4 ∨ r = 5 ∨ r = 6 ∨ r = 7 ∨ r = 8 ∨ r = 9 ∨ r = 10 by omega) with rfl | rfl | rfl | rfl | rfl | rfl | rfl | rfl | rfl | rfl | rfl <;> omega
theorem fq_b {r : Int} (r0 : 0 ≤ r) (r1 : r ≤ 10) : ∀ m i, 0 ≤ fq r m i ∧ fq r m i ≤ 1000000000000 := by
  intro m
  induction m with
  | zero => intro i; show 0 ≤ (if i = 0 then (1000000000000 : Int) else 0) ∧ (if i = 0 then (1000000000000 : Int) else 0) ≤ 1000000000000; split <;> omega
  | succ m ih =>
    intro i
    show 0 ≤ fq r m i * (10 - r) / 10 + (if i = 0 then 0 else fq r m (i - 1) * r / 10) ∧ fq r m i * (10 - r) / 10 + (if i = 0 then 0 else fq r m (i - 1) * r / 10) ≤ 1000000000000
    have h1 := (fq_st (ih i).1 (ih i).2 r0 r1).1
    have h2 := (fq_st (ih (i - 1)).1 (ih (i - 1)).2 r0 r1).2
    split <;> omega
theorem dv10 {x : Int} (h0 : 0 ≤ x) (h1 : x ≤ 10000000000000) : zdivJ (jJ x) (jJ 10) = some (jJ (x / 10)) := by
  rw [jJ_div (by omega) (by omega) (by omega) (by omega) (by decide), Int.tdiv_eq_ediv_of_nonneg h0]
section
variable {n : Nat} {E : zE} {S : zS} {M M' : zH} {B : Nat} {N N' : Nt} {Ls : Nat → Lw}
theorem s_fillI {q L : Nat} (hk : sK S q = 12) (hl : sN S q = L) (hL : L ≤ 100000) (hn : L < n) {v : Int32} : ∃ M', F_Ja_fillI n E S q v M = some M' ∧ (∀ j, j < L → mI M' q j = v) ∧ zAg (fun b j => b = q ∧ j < L) M M' := by
  unfold F_Ja_fillI
  rw [pz_len hk hl, obs, ← iI_nat]
  unfold F_Ja_fillI_b5
  obtain ⟨s', m, ⟨M1, hs', h1, hA1⟩, e⟩ := zfix_inv (F := fun r5 s => F_Ja_fillI_L5 n E S r5 s.1 s.2.1 s.2.2.1 s.2.2.2.1 s.2.2.2.2) (fun i s => ∃ M1, s = (q, v, iI (i : Int), iI (L : Int), M1) ∧ (∀ j, j < i → mI M1 q j = v) ∧ zAg (fun b j => b = q ∧ j < L) M M1) L (fun i hi s hI => by
    obtain ⟨M1, rfl, h1, hA1⟩ := hI
    refine ⟨(q, v, iI ((i + 1 : Nat) : Int), iI (L : Int), setI M1 q i v), ⟨_, rfl, fun j hj => ?_, hA1.setI ⟨rfl, hi⟩⟩, fun rec => ?_⟩
    · rw [mI_ite]
      by_cases c : j = i
      · rw [if_pos ⟨rfl, c⟩]
      · rw [if_neg (fun q => c q.2), h1 j (by omega)]
    · show F_Ja_fillI_L5 n E S rec q v (iI (i : Int)) (iI (L : Int)) M1 = _
      unfold F_Ja_fillI_L5
      rw [if_neg (cleF (by omega) (by omega) (by omega)), pi_stI hk hl (by omega) (by omega) hL, obs, iL1, iI_add, Int.toNat_natCast]
      rfl) n 0 (q, v, 0, iI (L : Int), M) (by omega) (by omega) ⟨M, rfl, fun j hj => by omega, zAg.rfl'⟩
  refine ⟨M1, ?_, h1, hA1⟩
  rw [e, hs']
  show F_Ja_fillI_L5 n E S _ q v (iI (L : Int)) (iI (L : Int)) M1 = _
  unfold F_Ja_fillI_L5
  rw [if_pos (cleT (by omega) (by omega) (by omega))]
theorem s_fillJ {q L : Nat} (hk : sK S q = 15) (hl : sN S q = L) (hL : L ≤ 100000) (hn : L < n) {v : Int64} : ∃ M', F_Ja_fillJ n E S q v M = some M' ∧ (∀ j, j < L → mJ M' q j = v) ∧ zAg (fun b j => b = q ∧ j < L) M M' := by
  unfold F_Ja_fillJ
  rw [pz_len hk hl, obs, ← iI_nat]
  unfold F_Ja_fillJ_b6
  obtain ⟨s', m, ⟨M1, hs', h1, hA1⟩, e⟩ := zfix_inv (F := fun r5 s => F_Ja_fillJ_L6 n E S r5 s.1 s.2.1 s.2.2.1 s.2.2.2.1 s.2.2.2.2) (fun i s => ∃ M1, s = (q, v, iI (i : Int), iI (L : Int), M1) ∧ (∀ j, j < i → mJ M1 q j = v) ∧ zAg (fun b j => b = q ∧ j < L) M M1) L (fun i hi s hI => by
    obtain ⟨M1, rfl, h1, hA1⟩ := hI
    refine ⟨(q, v, iI ((i + 1 : Nat) : Int), iI (L : Int), setJ M1 q i v), ⟨_, rfl, fun j hj => ?_, hA1.setJ ⟨rfl, hi⟩⟩, fun rec => ?_⟩
    · rw [mJ_ite]
      by_cases c : j = i
      · rw [if_pos ⟨rfl, c⟩]
      · rw [if_neg (fun q => c q.2), h1 j (by omega)]
    · show F_Ja_fillJ_L6 n E S rec q v (iI (i : Int)) (iI (L : Int)) M1 = _
      unfold F_Ja_fillJ_L6
      rw [if_neg (cleF (by omega) (by omega) (by omega)), pi_stJ hk hl (by omega) (by omega) hL, obs, iL1, iI_add, Int.toNat_natCast]
      rfl) n 0 (q, v, 0, iI (L : Int), M) (by omega) (by omega) ⟨M, rfl, fun j hj => by omega, zAg.rfl'⟩
  refine ⟨M1, ?_, h1, hA1⟩
  rw [e, hs']
  show F_Ja_fillJ_L6 n E S _ q v (iI (L : Int)) (iI (L : Int)) M1 = _
  unfold F_Ja_fillJ_L6
  rw [if_pos (cleT (by omega) (by omega) (by omega))]
/-! worth -/
def woV (N : Nt) (Ls : Nat → Lw) (w : Int) : Nat → Int := zsum (fun b => N 4 b * payV (nset N 14 0 w) Ls b (N 5 b))
theorem c_worth (h : Inv S M B) (hn : 100000 ≤ n) {x : Int} (hx : zR x) : Ag1 S B M (fun M => F_NC_worth n E S (B + 0) (iI x) M) (fun M => F_Mo_worth n E S (B + 105) (iI x) M) := by
  have hS := h.1
  have hx1 := hx.1
  have hx2 := hx.2
  refine Ag1.qr h (fun N Ls => iI (if -1 ≤ x ∧ x < N 13 0 then woV N Ls x (N 11 0).toNat else -1)) (fun N Ls hC hh => ?_) (fun M N Ls hM hh => ?_)
  · show ∃ M', F_NC_worth n E S (B + 0) (iI x) M = _ ∧ _
    have hN := hC.2.1
    have hnl := hN.nl
    have hnb := hN.nb
    have hI := nA86.ni hS
    have main : -1 ≤ x ∧ x < N 13 0 → ∃ M', F_NC_worth_b18 n E S (B + 0) (iI x) M = some (iI (if -1 ≤ x ∧ x < N 13 0 then woV N Ls x (N 11 0).toNat else -1), M') ∧ zAg (cQ B) M M' := fun c => by
      obtain ⟨M1, e1, hC1, hA1⟩ := s_sketch (n := n) (E := E) hS hC (by omega)
      have hN' := hN.s14 c.1 c.2
      have hA2 : zAg (fun b j => b = B + 86 ∧ j = 14) M1 (setI M1 (B + 86) 14 (iI x)) := zAg.rfl'.setI ⟨rfl, rfl⟩
      have hC2 : CN S (setI M1 (B + 86) 14 (iI x)) B (B + 86) (nset N 14 0 x) Ls := hC1.upd hA2 (fun b j q => by omega) (fun j => rfl) (hC1.1.setF 14 (by decide) (by decide) x) hN' rfl
      rw [if_pos c]
      unfold F_NC_worth_b18 F_Pa_worthBy
      rw [hS.g0_12, obs, hS.g0_0, obs, hS.ck85, obs, be_, hS.g85_1, obs, hI.ck, obs, e1, obs, hI.p14, obs]
      unfold F_Pa_worthBy_b21
      obtain ⟨s', m, ⟨M3, hs', hC3, hA3⟩, e⟩ := zfix_inv (F := fun r21 s => F_Pa_worthBy_L21 n E S r21 s.1 s.2.1 s.2.2.1 s.2.2.2) (fun i s => ∃ M3, s = (B + 85, iI (woV N Ls x i), iI (i : Int), M3) ∧ CN S M3 B (B + 86) (nset N 14 0 x) Ls ∧ zAg (cQ B) M M3) (N 11 0).toNat (fun i hi s hI' => by
        obtain ⟨M3, rfl, hC3, hA3⟩ := hI'
        have hf := hN.fie (k := i) (by omega)
        have e11 : nset N 14 0 x 11 0 = N 11 0 := nset_c (by decide)
        have e4 : nset N 14 0 x 4 i = N 4 i := nset_c (by decide)
        have e5 : nset N 14 0 x 5 i = N 5 i := nset_c (by decide)
        obtain ⟨M4, e4', hA4⟩ := s_payOf (n := n) (E := E) (b := (i : Int)) (f := N 5 i) hS nA86 hC3 (by omega) (by omega) (by omega) hf.1 hf.2
        refine ⟨(B + 85, iI (woV N Ls x (i + 1)), iI ((i + 1 : Nat) : Int), M4), ⟨M4, rfl, hC3.scr nA86 hA4, hA3.trans (cQ_c hA4)⟩, fun rec => ?_⟩
        show F_Pa_worthBy_L21 n E S rec (B + 85) (iI (woV N Ls x i)) (iI (i : Int)) M3 = _
        unfold F_Pa_worthBy_L21
        rw [hS.g85_1, obs, hI.i11 hC3.1, obs, e11, if_neg (cleF (by omega) (by omega) (by omega)), hI.g4, obs, hI.r4 hC3.1 (by omega) (by omega), obs, hS.g85_0, obs, hI.g5, obs, hI.r5 hC3.1 (by omega) (by omega), obs, hS.ck76, obs, Int.toNat_natCast, e4, e5, e4', obs, iI_mul, iI_add, iL1, iI_add]
        rfl) n 0 (B + 85, 0, 0, setI M1 (B + 86) 14 (iI x)) (by omega) (by omega) ⟨_, rfl, hC2, hA1.setI (by unfold cQ; omega)⟩
      refine ⟨M3, ?_, hA3⟩
      rw [e, hs']
      show F_Pa_worthBy_L21 n E S _ (B + 85) (iI (woV N Ls x (N 11 0).toNat)) (iI ((N 11 0).toNat : Int)) M3 = _
      have e11 : nset N 14 0 x 11 0 = N 11 0 := nset_c (by decide)
      unfold F_Pa_worthBy_L21
      rw [hS.g85_1, obs, hI.i11 hC3.1, obs, e11, if_pos (cleT (by omega) (by omega) (by omega))]
    unfold F_NC_worth
    by_cases c : x = -1
    · rw [if_pos (show iI x = -1 by rw [c]; rfl)]; exact main (by omega)
    · rw [if_neg (show ¬ iI x = -1 from ceqF (y := -1) c (by omega) (by omega) (by omega) (by omega)), hS.g0_0, obs, hS.now.ck, obs, s_hasLaw hS.now hC.1 hN hx, obs]
      by_cases d : 0 ≤ x ∧ x ≤ N 13 0 - 1
      · rw [if_pos (decide_eq_true d)]; exact main (by omega)
      · rw [if_neg (fun q => d (of_decide_eq_true q)), if_neg (show ¬ (-1 ≤ x ∧ x < N 13 0) by omega)]; exact ⟨M, rfl, zAg.rfl'⟩
  · show ∃ M', F_Mo_worth n E S (B + 105) (iI x) M = _ ∧ _
    have hM0 := hM.mq (mQ_0 (M := M))
    have hN := hM.2.2.1
    have hnb := hN.nb
    unfold F_Mo_worth
    rw [iL0, hS.p105, obs, hS.ck105, obs, s_mLaw hS hM0.2.1 hN hx, obs]
    by_cases c : -1 ≤ x ∧ x < N 13 0
    · have hM1 : MN (setI (setI M (B + 105) 0 (iI 0)) (B + 107) 3 (iI x)) B (nset N 14 0 x) Ls := hM0.st (by omega) (hM0.2.1.s_fo x) (hN.s14 c.1 c.2) rfl
      rw [if_pos (decide_eq_true c), if_pos c, hS.g105_3, obs, iL3, hS.r107 (by omega) (by omega), obs, hS.w107 (by omega) (by omega), obs, tn3]
      unfold F_Mo_worth_b34
      obtain ⟨s', m, ⟨M3, hs', hM3, hA3⟩, e⟩ := zfix_inv (F := fun r34 s => F_Mo_worth_L34 n E S r34 s.1 s.2.1 s.2.2.1 s.2.2.2.1 s.2.2.2.2) (fun i s => ∃ M3, s = (B + 105, mI (setI M (B + 105) 0 (iI 0)) (B + 107) 3, iI (woV N Ls x i), iI (i : Int), M3) ∧ MN M3 B (nset N 14 0 x) Ls ∧ zAg (mScr B) (setI (setI M (B + 105) 0 (iI 0)) (B + 107) 3 (iI x)) M3) (N 11 0).toNat (fun i hi s hI' => by
        obtain ⟨M3, rfl, hM3, hA3⟩ := hI'
        have hf := hN.fie (k := i) (by omega)
        have e11 : nset N 14 0 x 11 0 = N 11 0 := nset_c (by decide)
        have e4 : nset N 14 0 x 4 i = N 4 i := nset_c (by decide)
        have e5 : nset N 14 0 x 5 i = N 5 i := nset_c (by decide)
        obtain ⟨M4, e4', hA4⟩ := s_mpays (n := n) (E := E) (b := (i : Int)) (f := N 5 i) hS hM3 (by omega) (by omega) (by omega) hf.1 hf.2
        refine ⟨(B + 105, mI (setI M (B + 105) 0 (iI 0)) (B + 107) 3, iI (woV N Ls x (i + 1)), iI ((i + 1 : Nat) : Int), M4), ⟨M4, rfl, hM3.scr hA4, hA3.trans hA4⟩, fun rec => ?_⟩
        show F_Mo_worth_L34 n E S rec (B + 105) (mI (setI M (B + 105) 0 (iI 0)) (B + 107) 3) (iI (woV N Ls x i)) (iI (i : Int)) M3 = _
        unfold F_Mo_worth_L34
        rw [hS.g105_3, obs, iL0, hS.r107 (by omega) (by omega), obs, tn0, hM3.2.1.nb, e11, if_neg (cleF (by omega) (by omega) (by omega)), show (48 : Int32) = iI 48 by decide, iI_add, hS.r107 (by omega) (by omega), obs, show (51 : Int32) = iI 51 by decide, iI_add, hS.r107 (by omega) (by omega), obs, hM3.2.1.lev (by omega) (by omega), hM3.2.1.fie (by omega) (by omega), Int.toNat_natCast, e4, e5, e4', obs, iI_mul, iI_add, iL1, iI_add]
        rfl) n 0 (B + 105, mI (setI M (B + 105) 0 (iI 0)) (B + 107) 3, iI 0, iI 0, setI (setI M (B + 105) 0 (iI 0)) (B + 107) 3 (iI x)) (by omega) (by omega) ⟨_, rfl, hM1, zAg.rfl'⟩
      refine ⟨setI M3 (B + 107) 3 (mI (setI M (B + 105) 0 (iI 0)) (B + 107) 3), ?_, ?_, fun j => ?_⟩
      · refine e.trans ?_
        rw [hs']
        show F_Mo_worth_L34 n E S _ (B + 105) (mI (setI M (B + 105) 0 (iI 0)) (B + 107) 3) (iI (woV N Ls x (N 11 0).toNat)) (iI ((N 11 0).toNat : Int)) M3 = _
        have e11 : nset N 14 0 x 11 0 = N 11 0 := nset_c (by decide)
        unfold F_Mo_worth_L34
        rw [hS.g105_3, obs, iL0, hS.r107 (by omega) (by omega), obs, tn0, hM3.2.1.nb, e11, if_pos (cleT (by omega) (by omega) (by omega)), iL3, hS.w107 (by omega) (by omega), obs]
        rfl
      · have k0 : zAg (fun b j => mQ B b j ∨ b = B + 107) M (setI M (B + 105) 0 (iI 0)) := mQ_0.mono (fun _ _ q => Or.inl q)
        exact ((k0.setI (Or.inr rfl)).trans (hA3.mono (fun b j q => by unfold mScr at q; unfold mQ; omega))).setI (Or.inr rfl)
      · rw [mI_ite]
        by_cases cj : j = 3
        · rw [if_pos ⟨rfl, cj⟩, mI_a (by omega), cj]
        · rw [if_neg (fun q => cj q.2), (hA3 _ _ (fun q => by unfold mScr at q; omega)).1, mI_i cj, mI_a (by omega)]
    · rw [if_neg (fun q => c (of_decide_eq_true q)), if_neg c]; exact ⟨_, rfl, mP_0⟩
/-! few -/
theorem few_c (hS : ShOK S B) (hn : 600 ≤ n) {r : Int} (r0 : 0 ≤ r) (r1 : r ≤ 10) {k m : Nat} (hk1 : 1 ≤ k) (hk : k ≤ 20) (hm : m ≤ 99) : ∃ M', F_Pa_chanceOfFew n E S (B + 85) (iI (k : Int)) (iI (m : Int)) (iI r) M = some (jJ (zsum (fq r m) k), M') ∧ zAg (cQ B) M M' := by
  unfold F_Pa_chanceOfFew
  obtain ⟨M1, e1, h1, hA1⟩ := s_fillJ (n := n) (E := E) (M := M) (q := B + 103) (L := 20) (v := 0) (hS.k 103 (by decide)) (hS.n 103 (by decide)) (by decide) (by omega)
  rw [hS.g85_7, obs, e1, obs, iL0, hS.w103 (by omega) (by omega), obs, tn0]
  unfold F_Pa_chanceOfFew_b20
  have hA2 : zAg (cQ B) M (setJ M1 (B + 103) 0 1000000000000) := (hA1.mono (fun b j q => by unfold cQ; omega)).setJ (by unfold cQ; omega)
  obtain ⟨s', w, ⟨M3, hs', h3, hA3⟩, e⟩ := zfix_inv (F := fun r20 s => F_Pa_chanceOfFew_L20 n E S r20 s.1 s.2.1 s.2.2.1 s.2.2.2.1 s.2.2.2.2.1 s.2.2.2.2.2) (fun i s => ∃ M3, s = (B + 85, iI (k : Int), iI (m : Int), iI r, iI (i : Int), M3) ∧ (∀ j, j < 20 → mJ M3 (B + 103) j = jJ (fq r i j)) ∧ zAg (cQ B) M M3) m (fun i hi s hI' => by
    obtain ⟨M3, rfl, h3, hA3⟩ := hI'
    obtain ⟨s4, ⟨M4, hs4, h4, hA4⟩, e4⟩ := zfix_inv2 (F := fun rec r35 s => F_Pa_chanceOfFew_L35 n E S rec r35 s.1 s.2.1 s.2.2.1 s.2.2.2.1 s.2.2.2.2.1 s.2.2.2.2.2.1 s.2.2.2.2.2.2) (fun t s => ∃ M4, s = (B + 85, iI (k : Int), iI (m : Int), iI r, iI (i : Int), iI (19 - (t : Int)), M4) ∧ (∀ j, j < 20 → mJ M4 (B + 103) j = jJ (if j + t < 20 then fq r i j else fq r (i + 1) j)) ∧ zAg (cQ B) M M4) 20 (fun t ht s hI' => by
      obtain ⟨M4, rfl, h4, hA4⟩ := hI'
      have b1 := fq_b r0 r1 i (19 - t)
      have c1 := (fq_st b1.1 b1.2 r0 r1).1
      have b2 := fq_b r0 r1 i (19 - t - 1)
      have c2 := (fq_st b2.1 b2.2 r0 r1).2
      have g1 := h4 (19 - t) (by omega)
      rw [if_pos (by omega)] at g1
      refine ⟨(B + 85, iI (k : Int), iI (m : Int), iI r, iI (i : Int), iI (19 - ((t + 1 : Nat) : Int)), setJ M4 (B + 103) (19 - t) (jJ (fq r (i + 1) (19 - t)))), ⟨_, rfl, fun j hj => ?_, hA4.setJ (by unfold cQ; omega)⟩, fun rec rc => ?_⟩
      · rw [mJ_ite]
        by_cases c : j = 19 - t
        · rw [if_pos ⟨rfl, c⟩, if_neg (by omega), c]
        · rw [if_neg (fun q => c q.2), h4 j hj]
          by_cases d : j + t < 20
          · rw [if_pos d, if_pos (by omega)]
          · rw [if_neg d, if_neg (by omega)]
      · show F_Pa_chanceOfFew_L35 n E S rec rc (B + 85) (iI (k : Int)) (iI (m : Int)) (iI r) (iI (i : Int)) (iI (19 - (t : Int))) M4 = _
        have b65 : ∀ y : Int, y = (if 19 - t = 0 then 0 else fq r i (19 - t - 1) * r / 10) → F_Pa_chanceOfFew_b65 n E S rec rc (B + 85) (iI (k : Int)) (iI (m : Int)) (iI r) (iI (i : Int)) (iI (19 - (t : Int))) (jJ y) M4 = rc (B + 85, iI (k : Int), iI (m : Int), iI r, iI (i : Int), iI (19 - ((t + 1 : Nat) : Int)), setJ M4 (B + 103) (19 - t) (jJ (fq r (i + 1) (19 - t)))) := fun y hy => by
          unfold F_Pa_chanceOfFew_b65
          rw [hS.g85_7, obs, hS.r103 (by omega) (by omega), obs, show (19 - (t : Int)).toNat = 19 - t by omega, g1, iL10, iI_sub, xJ (by omega) (by omega), jJ_mul, jL10, dv10 c1.1 (by omega), obs, jJ_add, hS.w103 (by omega) (by omega), obs, iL1, iI_neg, iI_add, show (19 - (t : Int)).toNat = 19 - t by omega, show 19 - (t : Int) + -1 = 19 - ((t + 1 : Nat) : Int) by omega, hy]
          rfl
        unfold F_Pa_chanceOfFew_L35
        rw [iL0, if_neg (cltF (by omega) (by omega) (by omega))]
        by_cases c : t = 19
        · rw [if_pos (cleT (by omega) (by omega) (by omega)), show (0 : Int64) = jJ 0 by decide]
          exact b65 0 (by rw [if_pos (by omega)])
        · have g2 := h4 (19 - t - 1) (by omega)
          rw [if_pos (by omega)] at g2
          rw [if_neg (cleF (by omega) (by omega) (by omega)), hS.g85_7, obs, iL1, iI_sub, hS.r103 (by omega) (by omega), obs, show (19 - (t : Int) - 1).toNat = 19 - t - 1 by omega, g2, xJ (by omega) (by omega), jJ_mul, jL10, dv10 c2.1 (by omega), obs]
          exact b65 _ (by rw [if_neg (by omega)])) n 0 (B + 85, iI (k : Int), iI (m : Int), iI r, iI (i : Int), iI (20 - 1), M3) (by omega) (by omega) ⟨M3, rfl, fun j hj => by rw [if_pos (by omega)]; exact h3 j hj, hA3⟩
    refine ⟨(B + 85, iI (k : Int), iI (m : Int), iI r, iI ((i + 1 : Nat) : Int), M4), ⟨M4, rfl, fun j hj => ?_, hA4⟩, fun rec => ?_⟩
    · rw [h4 j hj, if_neg (by omega)]
    · show F_Pa_chanceOfFew_L20 n E S rec (B + 85) (iI (k : Int)) (iI (m : Int)) (iI r) (iI (i : Int)) M3 = _
      unfold F_Pa_chanceOfFew_L20 F_Pa_chanceOfFew_b35
      obtain ⟨w, e5⟩ := e4 rec
      rw [if_neg (cleF (by omega) (by omega) (by omega)), hS.g85_7, obs, hS.l103, obs, iL1, iI_sub]
      refine e5.trans ?_
      rw [hs4]
      show F_Pa_chanceOfFew_L35 n E S rec _ (B + 85) (iI (k : Int)) (iI (m : Int)) (iI r) (iI (i : Int)) (iI (19 - ((20 : Nat) : Int))) M4 = _
      unfold F_Pa_chanceOfFew_L35
      rw [iL0, if_pos (cltT (by omega) (by omega) (by omega)), iL1, iI_add]
      rfl) n 0 (B + 85, iI (k : Int), iI (m : Int), iI r, iI 0, setJ M1 (B + 103) 0 1000000000000) (by omega) (by omega) ⟨_, rfl, fun j hj => by
      rw [mJ_ite]
      by_cases c : j = 0
      · rw [if_pos ⟨rfl, c⟩, c]; rfl
      · rw [if_neg (fun q => c q.2), h1 j hj]
        show (0 : Int64) = jJ (if j = 0 then 1000000000000 else 0)
        rw [if_neg c]; rfl, hA2⟩
  refine ⟨M3, ?_, hA3⟩
  refine e.trans ?_
  rw [hs']
  show F_Pa_chanceOfFew_L20 n E S _ (B + 85) (iI (k : Int)) (iI (m : Int)) (iI r) (iI (m : Int)) M3 = _
  unfold F_Pa_chanceOfFew_L20 F_Pa_chanceOfFew_b112
  rw [if_pos (cleT (by omega) (by omega) (by omega))]
  obtain ⟨w2, e2⟩ := zfix_for (F := fun r112 s => F_Pa_chanceOfFew_L112 n E S r112 s.1 s.2.1 s.2.2.1 s.2.2.2.1 s.2.2.2.2) (fun i => (B + 85, iI (k : Int), jJ (zsum (fq r m) i), iI (i : Int), M3)) k (fun i hi rec => by
    show F_Pa_chanceOfFew_L112 n E S rec (B + 85) (iI (k : Int)) (jJ (zsum (fq r m) i)) (iI (i : Int)) M3 = _
    unfold F_Pa_chanceOfFew_L112
    rw [if_neg (cleF (by omega) (by omega) (by omega)), hS.g85_7, obs, hS.l103, obs, if_neg (cleF (by omega) (by omega) (by omega)), hS.r103 (by omega) (by omega), obs, Int.toNat_natCast, h3 i (by omega), jJ_add, iL1, iI_add]
    rfl) (k := n) (by omega)
  refine e2.trans ?_
  show F_Pa_chanceOfFew_L112 n E S _ (B + 85) (iI (k : Int)) (jJ (zsum (fq r m) k)) (iI (k : Int)) M3 = _
  unfold F_Pa_chanceOfFew_L112
  rw [if_pos (cleT (by omega) (by omega) (by omega))]
theorem few_m (hS : ShOK S B) (hn : 600 ≤ n) {r : Int} (r0 : 0 ≤ r) (r1 : r ≤ 10) (h7 : mI M (B + 107) 7 = iI r) {k m : Nat} (hk1 : 1 ≤ k) (hk : k ≤ 20) (hm : m ≤ 99) : ∃ M', F_Mo_few_b35 n E S (B + 105, iI (k : Int), iI (m : Int), 0, M) = some (jJ (zsum (fq r m) k), M') ∧ zAg (mQ B) M M' := by
  unfold F_Mo_few_b35
  obtain ⟨s1, w1, ⟨M1, hs1, h1, hA1⟩, e1⟩ := zfix_inv (F := fun r35 s => F_Mo_few_L35 n E S r35 s.1 s.2.1 s.2.2.1 s.2.2.2.1 s.2.2.2.2) (fun i s => ∃ M1, s = (B + 105, iI (k : Int), iI (m : Int), iI (i : Int), M1) ∧ (∀ j, j < i → mJ M1 (B + 132) j = jJ (fq r 0 j)) ∧ zAg (mQ B) M M1) 21 (fun i hi s hI' => by
    obtain ⟨M1, rfl, h1, hA1⟩ := hI'
    refine ⟨(B + 105, iI (k : Int), iI (m : Int), iI ((i + 1 : Nat) : Int), setJ M1 (B + 132) i (jJ (fq r 0 i))), ⟨_, rfl, fun j hj => ?_, hA1.setJ (by unfold mQ; omega)⟩, fun rec => ?_⟩
    · rw [mJ_ite]
      by_cases c : j = i
      · rw [if_pos ⟨rfl, c⟩, c]
      · rw [if_neg (fun q => c q.2), h1 j (by omega)]
    · show F_Mo_few_L35 n E S rec (B + 105) (iI (k : Int)) (iI (m : Int)) (iI (i : Int)) M1 = _
      unfold F_Mo_few_L35 F_Mo_few_b57
      rw [show (21 : Int32) = iI 21 by decide, if_neg (cleF (by omega) (by omega) (by omega)), hS.g105_47, obs, hS.w132 (by omega) (by omega), obs, iL1, iI_add, Int.toNat_natCast, iL0]
      by_cases c : i = 0
      · rw [if_pos (ceqT (by omega)), c]; rfl
      · rw [if_neg (ceqF (by omega) (by omega) (by omega) (by omega) (by omega)), hS.w132 (by omega) (by omega), obs, Int.toNat_natCast]
        show rec (B + 105, iI (k : Int), iI (m : Int), iI ((i : Int) + 1), setJ M1 (B + 132) i 0) = rec (B + 105, iI (k : Int), iI (m : Int), iI ((i + 1 : Nat) : Int), setJ M1 (B + 132) i (jJ (if i = 0 then 1000000000000 else 0)))
        rw [if_neg c]; rfl) n 0 (B + 105, iI (k : Int), iI (m : Int), 0, M) (by omega) (by omega) ⟨M, rfl, fun j hj => by omega, zAg.rfl'⟩
  obtain ⟨s', w, ⟨M3, hs', h3, hA3⟩, e⟩ := zfix_inv (F := fun r20 s => F_Mo_few_L75 n E S r20 s.1 s.2.1 s.2.2.1 s.2.2.2.1 s.2.2.2.2.1 s.2.2.2.2.2) (fun i s => ∃ M3, s = (B + 105, iI (k : Int), iI (m : Int), iI r, iI (i : Int), M3) ∧ (∀ j, j < k → mJ M3 (B + 132) j = jJ (fq r i j)) ∧ zAg (mQ B) M M3) m (fun i hi s hI' => by
    obtain ⟨M3, rfl, h3, hA3⟩ := hI'
    obtain ⟨s4, ⟨M4, hs4, h4, hA4⟩, e4⟩ := zfix_inv2 (F := fun rec r35 s => F_Mo_few_L86 n E S rec r35 s.1 s.2.1 s.2.2.1 s.2.2.2.1 s.2.2.2.2.1 s.2.2.2.2.2.1 s.2.2.2.2.2.2) (fun t s => ∃ M4, s = (B + 105, iI (k : Int), iI (m : Int), iI r, iI (i : Int), iI ((k : Int) - 1 - (t : Int)), M4) ∧ (∀ j, j < k → mJ M4 (B + 132) j = jJ (if j + t < k then fq r i j else if j + t = k then fq r i j * (10 - r) / 10 else fq r (i + 1) j)) ∧ zAg (mQ B) M M4) k (fun t ht s hI' => by
      obtain ⟨M4, rfl, h4, hA4⟩ := hI'
      have b1 := fq_b r0 r1 i (k - 1 - t)
      obtain ⟨c1, c2⟩ := fq_st b1.1 b1.2 r0 r1
      have g1 := h4 (k - 1 - t) (by omega)
      rw [if_pos (by omega)] at g1
      refine ⟨(B + 105, iI (k : Int), iI (m : Int), iI r, iI (i : Int), iI ((k : Int) - 1 - ((t + 1 : Nat) : Int)), setJ (setJ M4 (B + 132) (k - 1 - t) (jJ (fq r i (k - 1 - t) * (10 - r) / 10))) (B + 132) (k - t) (mJ M4 (B + 132) (k - t) + jJ (fq r i (k - 1 - t) * r / 10))), ⟨_, rfl, fun j hj => ?_, (hA4.setJ (by unfold mQ; omega)).setJ (by unfold mQ; omega)⟩, fun rec rc => ?_⟩
      · rw [mJ_ite, mJ_ite]
        by_cases d1 : j = k - t
        · rw [if_pos ⟨rfl, d1⟩, ← d1, h4 j hj, if_neg (by omega), if_pos (by omega), if_neg (by omega), if_neg (by omega), jJ_add]
          show _ = jJ (fq r i j * (10 - r) / 10 + (if j = 0 then 0 else fq r i (j - 1) * r / 10))
          rw [if_neg (by omega), show k - 1 - t = j - 1 by omega]
        · rw [if_neg (fun q => d1 q.2)]
          by_cases d2 : j = k - 1 - t
          · rw [if_pos ⟨rfl, d2⟩, if_neg (by omega), if_pos (by omega), d2]
          · rw [if_neg (fun q => d2 q.2), h4 j hj]
            by_cases d3 : j + t < k
            · rw [if_pos d3, if_pos (by omega)]
            · rw [if_neg d3, if_neg (by omega), if_neg (by omega), if_neg (by omega)]
      · show F_Mo_few_L86 n E S rec rc (B + 105) (iI (k : Int)) (iI (m : Int)) (iI r) (iI (i : Int)) (iI ((k : Int) - 1 - (t : Int))) M4 = _
        unfold F_Mo_few_L86
        have n1 : ((k : Int) - 1 - (t : Int)).toNat = k - 1 - t := by omega
        have n2 : ((k : Int) - 1 - (t : Int) + 1).toNat = k - t := by omega
        have ej : mJ (setJ M4 (B + 132) (k - 1 - t) (jJ (fq r i (k - 1 - t) * (10 - r) / 10))) (B + 132) (k - t) = mJ M4 (B + 132) (k - t) := by
          rw [mJ_ite, if_neg (by omega)]
        rw [iL0, if_neg (cltF (by omega) (by omega) (by omega)), hS.g105_47, obs, hS.r132 (by omega) (by omega), obs, n1, g1, iL10, iI_sub, xJ (by omega) (by omega), jJ_mul, jL10, dv10 c1.1 (by omega), obs, hS.w132 (by omega) (by omega), obs, n1, iL1, iI_add, hS.r132 (by omega) (by omega), obs, n2, ej, xJ (by omega) (by omega), jJ_mul, dv10 c2.1 (by omega), obs, hS.w132 (by omega) (by omega), obs, n2, iI_neg, iI_add, show (k : Int) - 1 - (t : Int) + -1 = (k : Int) - 1 - ((t + 1 : Nat) : Int) by omega]) n 0 (B + 105, iI (k : Int), iI (m : Int), iI r, iI (i : Int), iI ((k : Int) - 1), M3) (by omega) (by omega) ⟨M3, by rw [show (k : Int) - 1 - ((0 : Nat) : Int) = (k : Int) - 1 by omega], fun j hj => by rw [if_pos (by omega)]; exact h3 j hj, hA3⟩
    refine ⟨(B + 105, iI (k : Int), iI (m : Int), iI r, iI ((i + 1 : Nat) : Int), M4), ⟨M4, rfl, fun j hj => ?_, hA4⟩, fun rec => ?_⟩
    · rw [h4 j hj, if_neg (by omega)]
      by_cases c : j = 0
      · rw [if_pos (by omega), c]
        show _ = jJ (fq r i 0 * (10 - r) / 10 + (if 0 = 0 then 0 else fq r i (0 - 1) * r / 10))
        rw [if_pos rfl, Int.add_zero]
      · rw [if_neg (by omega)]
    · show F_Mo_few_L75 n E S rec (B + 105) (iI (k : Int)) (iI (m : Int)) (iI r) (iI (i : Int)) M3 = _
      unfold F_Mo_few_L75 F_Mo_few_b86
      obtain ⟨w, e5⟩ := e4 rec
      rw [if_neg (cleF (by omega) (by omega) (by omega)), iL1, iI_sub]
      refine e5.trans ?_
      rw [hs4]
      show F_Mo_few_L86 n E S rec _ (B + 105) (iI (k : Int)) (iI (m : Int)) (iI r) (iI (i : Int)) (iI ((k : Int) - 1 - ((k : Nat) : Int))) M4 = _
      unfold F_Mo_few_L86
      rw [iL0, if_pos (cltT (by omega) (by omega) (by omega)), iL1, iI_add]
      rfl) n 0 (B + 105, iI (k : Int), iI (m : Int), iI r, 0, M1) (by omega) (by omega) ⟨M1, rfl, fun j hj => h1 j (by omega), hA1⟩
  refine ⟨M3, ?_, hA3⟩
  refine e1.trans ?_
  rw [hs1]
  show F_Mo_few_L35 n E S _ (B + 105) (iI (k : Int)) (iI (m : Int)) (iI ((21 : Nat) : Int)) M1 = _
  unfold F_Mo_few_L35 F_Mo_few_b75
  rw [show (21 : Int32) = iI 21 by decide, if_pos (cleT (by omega) (by omega) (by omega)), hS.g105_3, obs, iL7, hS.r107 (by omega) (by omega), obs, tn7, (hA1 _ _ (fun q => by unfold mQ at q; omega)).1, h7]
  refine e.trans ?_
  rw [hs']
  show F_Mo_few_L75 n E S _ (B + 105) (iI (k : Int)) (iI (m : Int)) (iI r) (iI (m : Int)) M3 = _
  unfold F_Mo_few_L75 F_Mo_few_b158
  rw [if_pos (cleT (by omega) (by omega) (by omega))]
  obtain ⟨w2, e2⟩ := zfix_for (F := fun r112 s => F_Mo_few_L158 n E S r112 s.1 s.2.1 s.2.2.1 s.2.2.2.1 s.2.2.2.2) (fun i => (B + 105, iI (k : Int), jJ (zsum (fq r m) i), iI (i : Int), M3)) k (fun i hi rec => by
    show F_Mo_few_L158 n E S rec (B + 105) (iI (k : Int)) (jJ (zsum (fq r m) i)) (iI (i : Int)) M3 = _
    unfold F_Mo_few_L158
    rw [if_neg (cleF (by omega) (by omega) (by omega)), hS.g105_47, obs, hS.r132 (by omega) (by omega), obs, Int.toNat_natCast, h3 i hi, jJ_add, iL1, iI_add]
    rfl) (k := n) (by omega)
  refine e2.trans ?_
  show F_Mo_few_L158 n E S _ (B + 105) (iI (k : Int)) (jJ (zsum (fq r m) k)) (iI (k : Int)) M3 = _
  unfold F_Mo_few_L158
  rw [if_pos (cleT (by omega) (by omega) (by omega))]
theorem c_few (h : Inv S M B) (hn : 100000 ≤ n) {x y : Int} (hx : zR x) (hy : zR y) : Ag1 S B M (fun M => F_NC_few n E S (B + 0) (iI x) (iI y) M) (fun M => F_Mo_few n E S (B + 105) (iI x) (iI y) M) := by
  have hS := h.1
  have hx1 := hx.1
  have hx2 := hx.2
  have hy1 := hy.1
  have hy2 := hy.2
  refine Ag1.qr h (fun N Ls => jJ (if (1 ≤ x ∧ x ≤ 20) ∧ (0 ≤ y ∧ y ≤ 99) then zsum (fq (N 9 3) y.toNat) x.toNat else -1)) (fun N Ls hC hh => ?_) (fun M N Ls hM hh => ?_)
  · show ∃ M', F_NC_few n E S (B + 0) (iI x) (iI y) M = _ ∧ _
    have hr := hC.2.1.rust
    have hI := nA1.ni hS
    unfold F_NC_few F_NC_few_b20
    rw [iL1, iL20, s_withinI hx (zR_of (by omega) (by omega)) (zR_of (by omega) (by omega)), obs]
    by_cases c1 : 1 ≤ x ∧ x ≤ 20
    · rw [if_pos (decide_eq_true c1), iL0, iL99, s_withinI hy (zR_of (by omega) (by omega)) (zR_of (by omega) (by omega)), obs]
      by_cases c2 : 0 ≤ y ∧ y ≤ 99
      · obtain ⟨M', e, hA⟩ := few_c (n := n) (E := E) (M := M) hS (by omega) hr.1 hr.2 (k := x.toNat) (m := y.toNat) (by omega) (by omega) (by omega)
        rw [show ((x.toNat : Nat) : Int) = x by omega, show ((y.toNat : Nat) : Int) = y by omega] at e
        rw [if_pos (decide_eq_true c2), if_pos (show (1 ≤ x ∧ x ≤ 20) ∧ (0 ≤ y ∧ y ≤ 99) from ⟨c1, c2⟩), hS.g0_12, obs, hS.g0_0, obs, hI.g9, obs, iL3, hI.r9 hC.1 (by omega) (by omega), obs, hS.ck85, obs, tn3, e, obs]
        exact ⟨M', rfl, hA⟩
      · rw [if_neg (fun q => c2 (of_decide_eq_true q)), if_neg (fun q => c2 q.2)]; exact ⟨M, rfl, zAg.rfl'⟩
    · rw [if_neg (fun q => c1 (of_decide_eq_true q)), if_neg (fun q => c1 q.1)]; exact ⟨M, rfl, zAg.rfl'⟩
  · show ∃ M', F_Mo_few n E S (B + 105) (iI x) (iI y) M = _ ∧ _
    have hM0 := hM.mq (mQ_0 (M := M))
    have hr := hM.2.2.1.rust
    unfold F_Mo_few F_Mo_few_b29
    rw [iL0, hS.p105, obs, xJ hx1 hx2, jL1, show (20 : Int64) = jJ 20 by decide, s_in (by omega) (by omega) (by omega) (by omega) (by omega) (by omega), obs]
    by_cases c1 : 1 ≤ x ∧ x ≤ 20
    · rw [if_pos (decide_eq_true c1), xJ hy1 hy2, jL0, show (99 : Int64) = jJ 99 by decide, s_in (by omega) (by omega) (by omega) (by omega) (by omega) (by omega), obs]
      by_cases c2 : 0 ≤ y ∧ y ≤ 99
      · obtain ⟨M', e, hA⟩ := few_m (n := n) (E := E) (M := setI M (B + 105) 0 (iI 0)) hS (by omega) hr.1 hr.2 hM0.2.1.rust (k := x.toNat) (m := y.toNat) (by omega) (by omega) (by omega)
        rw [show ((x.toNat : Nat) : Int) = x by omega, show ((y.toNat : Nat) : Int) = y by omega] at e
        rw [if_pos (decide_eq_true c2), if_pos (show (1 ≤ x ∧ x ≤ 20) ∧ (0 ≤ y ∧ y ≤ 99) from ⟨c1, c2⟩)]
        exact ⟨M', e, mP_0.trans (mP.q hA)⟩
      · rw [if_neg (fun q => c2 (of_decide_eq_true q)), if_neg (fun q => c2 q.2)]; exact ⟨_, rfl, mP_0⟩
    · rw [if_neg (fun q => c1 (of_decide_eq_true q)), if_neg (fun q => c1 q.1)]; exact ⟨_, rfl, mP_0⟩
end
