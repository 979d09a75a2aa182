/-! SHARES: what a ring at a turn gives a field -/
def shV (N : Nt) (Ls : Nat → Lw) (r t f : Int) : Int := if N 1 (8 * r.toNat + ((f - t) % 8).toNat) = 1 then 0 else runsF N Ls r ((f - t) % 8) f
def shQ (N : Nt) (Ls : Nat → Lw) (q : Nat) : Int := shV N Ls ((q / 64 : Nat) : Int) ((q / 8 % 8 : Nat) : Int) ((q % 8 : Nat) : Int)
/-- all rings at one turn -/
def nFt (N : Nt) (t : Int) : Nt := fun c k => if c = 2 ∧ k < 4 then t else N c k
theorem nFt_c {N : Nt} {t : Int} {c k : Nat} (h : c ≠ 2) : nFt N t c k = N c k := if_neg (fun q => h q.1)
theorem nFt_ok {N : Nt} (hN : NdOK N) {t : Int} (h0 : 0 ≤ t) (h1 : t < 8) : NdOK (nFt N t) := by
  obtain ⟨a0, a1, a2, a3⟩ := hN
  refine ⟨a0, a1, fun k hk => ?_, a3⟩
  show 0 ≤ (if 2 = 2 ∧ k < 4 then t else N 2 k) ∧ (if 2 = 2 ∧ k < 4 then t else N 2 k) < 8
  rw [if_pos ⟨rfl, hk⟩]; exact ⟨h0, h1⟩
theorem runsF_cg {N N' : Nt} {Ls : Nat → Lw} (h0 : N' 0 = N 0) (h9 : N' 9 = N 9) (h14 : N' 14 = N 14) (r h f : Int) : runsF N' Ls r h f = runsF N Ls r h f := by
  have hw : wRn N' r h f = wRn N r h f := by
    funext i
    match i with
    | 0 => rfl
    | 1 => rfl
    | 2 => show N' 0 _ = N 0 _; rw [h0]
    | 3 => rfl
    | 4 => rfl
    | 5 => rfl
    | 6 => show N' 9 0 = N 9 0; rw [h9]
    | 7 => show N' 9 1 = N 9 1; rw [h9]
    | 8 => show N' 9 2 = N 9 2; rw [h9]
    | n + 9 => rfl
  unfold runsF tlN
  rw [hw, h0, h9, h14]
theorem abv_sh {N : Nt} {Ls : Nat → Lw} (hN : NdOK N) {r t f : Int} (hr0 : 0 ≤ r) (hr : r < 4) (ht0 : 0 ≤ t) (ht : t < 8) (hf0 : 0 ≤ f) (hf : f < 8) : abvV (nFt N t) Ls r f = shV N Ls r t f := by
  rw [abv_b (nFt_ok hN ht0 ht) hr0 hr hf0 hf]
  have e : nFt N t 2 r.toNat = t := if_pos ⟨rfl, by omega⟩
  rw [e, nFt_c (by decide), runsF_cg (N := N) (N' := nFt N t) (funext fun k => nFt_c (by decide)) (funext fun k => nFt_c (by decide)) (funext fun k => nFt_c (by decide))]
  rfl
theorem shV_b {N : Nt} {Ls : Nat → Lw} (hN : NdOK N) {r t f : Int} (hr0 : 0 ≤ r) (hr : r < 4) (ht0 : 0 ≤ t) (ht : t < 8) (hf0 : 0 ≤ f) (hf : f < 8) : 0 ≤ shV N Ls r t f ∧ shV N Ls r t f ≤ 99 := by
  rw [← abv_sh hN hr0 hr ht0 ht hf0 hf]
  exact abvV_b (nFt_ok hN ht0 ht) hr0 hr
section
variable {n : Nat} {E : zE} {S : zS} {M M' : zH} {B : Nat} {N N' : Nt} {Ls : Nat → Lw}
theorem CN.fill {M' : zH} (hC : CN S M B (B + 86) N Ls) {t : Int} (h0 : 0 ≤ t) (h1 : t < 8) (h : ∀ j, j < 4 → mI M' (B + 89) j = iI t) (hA : zAg (fun b j => b = B + 89 ∧ j < 4) M M') : CN S M' B (B + 86) (nFt N t) Ls := by
  refine hC.upd hA (fun b j q => by omega) (fun j => (hA _ _ (fun q => by omega)).2.2) ⟨fun c hc k hk => ?_, fun c c1 c2 => ?_⟩ (nFt_ok hC.2.1 h0 h1) rfl
  · by_cases q : c = 2
    · subst q
      have hk4 : k < 4 := hk
      show mI M' (B + 89) k = iI (if 2 = 2 ∧ k < 4 then t else N 2 k)
      rw [if_pos ⟨rfl, hk4⟩]; exact h k hk4
    · rw [nFt_c q, (hA _ _ (fun z => by omega)).1]; exact hC.1.1 c hc k hk
  · rw [nFt_c (by omega), (hA _ _ (fun z => by omega)).1]; exact hC.1.2 c c1 c2
theorem s_shares (hS : ShOK S B) (hC : CN S M B (B + 1) N Ls) (hn : 600 ≤ n) : ∃ M', F_Pa_findShares n E S (B + 85) (B + 1) M = some M' ∧ (∀ q, q < 256 → mI M' (B + 98) q = iI (shQ N Ls q)) ∧ zAg (cQ B) M M' := by
  have hN := hC.2.1
  have hI := nA86.ni hS
  have hs2 := hI.2 2 (by decide)
  obtain ⟨M0, e0, hC0, hA0⟩ := s_sketch (n := n) (E := E) hS hC hn
  unfold F_Pa_findShares F_Pa_findShares_b10
  rw [hS.g85_1, obs, hI.ck, obs, e0, obs]
  obtain ⟨s1, w1, ⟨M1, u1, hs1, hC1, h1, hA1⟩, e1⟩ := zfix_inv (F := fun r10 s => F_Pa_findShares_L10 n E S r10 s.1 s.2.1 s.2.2) (fun t s => ∃ (M1 : zH) (u : Int), s = (B + 85, iI (t : Int), M1) ∧ (0 ≤ u ∧ u < 8 ∧ CN S M1 B (B + 86) (nFt N u) Ls ∨ CN S M1 B (B + 86) N Ls) ∧ (∀ q, q < 256 → q / 8 % 8 < t → mI M1 (B + 98) q = iI (shQ N Ls q)) ∧ zAg (cQ B) M M1) 8 (fun t ht s hI1 => by
    obtain ⟨M1, u, rfl, hC1, h1, hA1⟩ := hI1
    obtain ⟨M2, e2, h2, hA2⟩ := s_fillI (n := n) (E := E) (M := M1) (q := B + 89) (L := 4) (v := iI (t : Int)) hs2.2.1 hs2.2.2 (by decide) (by omega)
    have hC2 : CN S M2 B (B + 86) (nFt N (t : Int)) Ls := by
      rcases hC1 with ⟨u0, u8, hC1⟩ | hC1
      · have := hC1.fill (t := (t : Int)) (by omega) (by omega) h2 hA2
        have e : nFt (nFt N u) (t : Int) = nFt N (t : Int) := by
          funext c k
          unfold nFt
          by_cases q : c = 2 ∧ k < 4
          · rw [if_pos q, if_pos q]
          · rw [if_neg q, if_neg q, if_neg q]
        rw [e] at this; exact this
      · exact hC1.fill (t := (t : Int)) (by omega) (by omega) h2 hA2
    obtain ⟨s3, ⟨M3, hs3, hC3, h3, hA3⟩, e3⟩ := zfix_inv2 (F := fun r10 r29 s => F_Pa_findShares_L29 n E S r10 r29 s.1 s.2.1 s.2.2.1 s.2.2.2) (fun r s => ∃ M3, s = (B + 85, iI (t : Int), iI (r : Int), M3) ∧ CN S M3 B (B + 86) (nFt N (t : Int)) Ls ∧ (∀ q, q < 256 → q / 8 % 8 < t ∨ (q / 8 % 8 = t ∧ q / 64 < r) → mI M3 (B + 98) q = iI (shQ N Ls q)) ∧ zAg (cQ B) M M3) 4 (fun r hr s hI3 => by
      obtain ⟨M3, rfl, hC3, h3, hA3⟩ := hI3
      obtain ⟨s4, ⟨M4, hs4, hC4, h4, hA4⟩, e4⟩ := zfix_inv2 (ρ := (Nat × Int32 × zH → Option zH) × (Nat × Int32 × Int32 × zH → Option zH)) (F := fun rr r37 s => F_Pa_findShares_L37 n E S rr.1 rr.2 r37 s.1 s.2.1 s.2.2.1 s.2.2.2.1 s.2.2.2.2) (fun f s => ∃ M4, s = (B + 85, iI (t : Int), iI (r : Int), iI (f : Int), M4) ∧ CN S M4 B (B + 86) (nFt N (t : Int)) Ls ∧ (∀ q, q < 256 → q / 8 % 8 < t ∨ (q / 8 % 8 = t ∧ q / 64 < r) ∨ (q / 8 % 8 = t ∧ q / 64 = r ∧ q % 8 < f) → mI M4 (B + 98) q = iI (shQ N Ls q)) ∧ zAg (cQ B) M M4) 8 (fun f hf s hI4 => by
        obtain ⟨M4, rfl, hC4, h4, hA4⟩ := hI4
        obtain ⟨M5, e5, hA5⟩ := s_runsAbove (n := n) (E := E) (r := (r : Int)) (f := (f : Int)) hS nA86 hC4 hn (by omega) (by omega) (by omega) (by omega)
        rw [abv_sh hN (by omega) (by omega) (by omega) (by omega) (by omega) (by omega)] at e5
        have hA6 : zAg (fun b j => b = B + 98) M5 (setI M5 (B + 98) (64 * r + 8 * t + f) (iI (shV N Ls r t f))) := zAg.rfl'.setI rfl
        refine ⟨(B + 85, iI (t : Int), iI (r : Int), iI ((f + 1 : Nat) : Int), setI M5 (B + 98) (64 * r + 8 * t + f) (iI (shV N Ls r t f))), ⟨_, rfl, (hC4.scr nA86 hA5).ag hA6 (fun b j q => by omega), fun q hq hd => ?_, (hA4.trans (cQ_c hA5)).trans (hA6.mono (fun b j q => by unfold cQ; omega))⟩, fun rr rec => ?_⟩
        · rw [mI_ite]
          by_cases c : q = 64 * r + 8 * t + f
          · rw [if_pos ⟨rfl, c⟩]
            unfold shQ
            rw [show q / 64 = r by omega, show q / 8 % 8 = t by omega, show q % 8 = f by omega]
          · rw [if_neg (fun z => c z.2), (hA5 _ _ (fun z => by unfold cScr at z; omega)).1]
            exact h4 q hq (by omega)
        · show F_Pa_findShares_L37 n E S rr.1 rr.2 rec (B + 85) (iI (t : Int)) (iI (r : Int)) (iI (f : Int)) M4 = _
          unfold F_Pa_findShares_L37
          rw [iL8, if_neg (cleF (by omega) (by omega) (by omega)), hS.g85_2, obs, hS.g85_0, obs, hS.g85_1, obs, hS.ck76, obs, e5, obs, iI_mul, iI_add, iI_mul, iI_add, hS.w98 (by omega) (by omega), obs, iL1, iI_add, show (((r : Int) * 8 + (t : Int)) * 8 + (f : Int)).toNat = 64 * r + 8 * t + f by omega]
          rfl) n 0 (B + 85, iI (t : Int), iI (r : Int), 0, M3) (by omega) (by omega) ⟨M3, rfl, hC3, fun q hq hd => h3 q hq (by omega), hA3⟩
      refine ⟨(B + 85, iI (t : Int), iI ((r + 1 : Nat) : Int), M4), ⟨M4, rfl, hC4, fun q hq hd => h4 q hq (by omega), hA4⟩, fun r10 rec => ?_⟩
      show F_Pa_findShares_L29 n E S r10 rec (B + 85) (iI (t : Int)) (iI (r : Int)) M3 = _
      unfold F_Pa_findShares_L29 F_Pa_findShares_b37
      obtain ⟨w, e5⟩ := e4 (r10, rec)
      rw [iL4, if_neg (cleF (by omega) (by omega) (by omega))]
      refine e5.trans ?_
      rw [hs4]
      show F_Pa_findShares_L37 n E S r10 rec _ (B + 85) (iI (t : Int)) (iI (r : Int)) (iI ((8 : Nat) : Int)) M4 = _
      unfold F_Pa_findShares_L37
      rw [iL8, if_pos (cleT (by omega) (by omega) (by omega)), iL1, iI_add]
      rfl) n 0 (B + 85, iI (t : Int), 0, M2) (by omega) (by omega) ⟨M2, rfl, hC2, fun q hq hd => by rw [(hA2 _ _ (fun z => by omega)).1]; exact h1 q hq (by omega), hA1.trans (hA2.mono (fun b j q => by unfold cQ; omega))⟩
    refine ⟨(B + 85, iI ((t + 1 : Nat) : Int), M3), ⟨M3, (t : Int), rfl, Or.inl ⟨by omega, by omega, hC3⟩, fun q hq hd => h3 q hq (by omega), hA3⟩, fun rec => ?_⟩
    show F_Pa_findShares_L10 n E S rec (B + 85) (iI (t : Int)) M1 = _
    unfold F_Pa_findShares_L10 F_Pa_findShares_b29
    obtain ⟨w, e5⟩ := e3 rec
    have e2' : F_Ja_fillI n E S (B + 86 + 1 + 2) (iI (t : Int)) M1 = some M2 := e2
    rw [iL8, if_neg (cleF (by omega) (by omega) (by omega)), hS.g85_1, obs, hI.g2, obs, e2', obs]
    refine e5.trans ?_
    rw [hs3]
    show F_Pa_findShares_L29 n E S rec _ (B + 85) (iI (t : Int)) (iI ((4 : Nat) : Int)) M3 = _
    unfold F_Pa_findShares_L29
    rw [iL4, if_pos (cleT (by omega) (by omega) (by omega)), iL1, iI_add]
    rfl) n 0 (B + 85, 0, M0) (by omega) (by omega) ⟨M0, 0, rfl, Or.inr hC0, fun q hq hd => by omega, hA0⟩
  refine ⟨M1, ?_, fun q hq => h1 q hq (by omega), hA1⟩
  refine e1.trans ?_
  rw [hs1]
  show F_Pa_findShares_L10 n E S _ (B + 85) (iI ((8 : Nat) : Int)) M1 = _
  unfold F_Pa_findShares_L10
  rw [if_pos (by decide)]
/-- scratch with falls -/
def faX (B : Nat) : Nat → Nat → Prop := fun b j => mScr B b j ∨ b = B + 130
theorem fa_q (h : zAg (faX B) M M') : zAg (mQ B) M M' := h.mono (fun b j q => by unfold faX mScr at q; unfold mQ; omega)
theorem MN.fa (hM : MN M B N Ls) (h : zAg (faX B) M M') : MN M' B N Ls := hM.mq (fa_q h)
theorem s_layFalls (hS : ShOK S B) (hM : MN M B N Ls) (hn : 600 ≤ n) : ∃ M', F_Mo_layFalls n E S (B + 105) M = some M' ∧ (∀ q, q < 256 → mI M' (B + 130) q = iI (shQ N Ls q)) ∧ zAg (faX B) M M' := by
  have hN := hM.2.2.1
  unfold F_Mo_layFalls F_Mo_layFalls_b2
  obtain ⟨s1, w1, ⟨M1, hs1, h1, hA1⟩, e1⟩ := zfix_inv (F := fun r2 s => F_Mo_layFalls_L2 n E S r2 s.1 s.2.1 s.2.2) (fun r s => ∃ (M1 : zH), s = (B + 105, iI (r : Int), M1) ∧ (∀ q, q < 64 * r → mI M1 (B + 130) q = iI (shQ N Ls q)) ∧ zAg (faX B) M M1) 4 (fun r hr s hI1 => by
    obtain ⟨M1, rfl, h1, hA1⟩ := hI1
    obtain ⟨s3, ⟨M3, hs3, h3, hA3⟩, e3⟩ := zfix_inv2 (F := fun r2 r9 s => F_Mo_layFalls_L9 n E S r2 r9 s.1 s.2.1 s.2.2.1 s.2.2.2) (fun t s => ∃ M3, s = (B + 105, iI (r : Int), iI (t : Int), M3) ∧ (∀ q, q < 64 * r + 8 * t → mI M3 (B + 130) q = iI (shQ N Ls q)) ∧ zAg (faX B) M M3) 8 (fun t ht s hI3 => by
      obtain ⟨M3, rfl, h3, hA3⟩ := hI3
      obtain ⟨s4, ⟨M4, hs4, h4, hA4⟩, e4⟩ := zfix_inv2 (ρ := (Nat × Int32 × zH → Option zH) × (Nat × Int32 × Int32 × zH → Option zH)) (F := fun rr r17 s => F_Mo_layFalls_L17 n E S rr.1 rr.2 r17 s.1 s.2.1 s.2.2.1 s.2.2.2.1 s.2.2.2.2) (fun f s => ∃ M4, s = (B + 105, iI (r : Int), iI (t : Int), iI (f : Int), M4) ∧ (∀ q, q < 64 * r + 8 * t + f → mI M4 (B + 130) q = iI (shQ N Ls q)) ∧ zAg (faX B) M M4) 8 (fun f hf s hI4 => by
        obtain ⟨M4, rfl, h4, hA4⟩ := hI4
        have hM4 := hM.fa hA4
        have hk := hN.blk (k := 8 * r + (((f : Int) - (t : Int)) % 8).toNat) (by omega)
        have fin : ∀ M5 : zH, zAg (mScr B) M4 M5 → (∃ M6, setI M5 (B + 130) (64 * r + 8 * t + f) (iI (shV N Ls r t f)) = M6 ∧ (∀ q, q < 64 * r + 8 * t + (f + 1) → mI M6 (B + 130) q = iI (shQ N Ls q)) ∧ zAg (faX B) M M6) := fun M5 hA5 => by
          refine ⟨_, rfl, fun q hq => ?_, (hA4.trans (hA5.mono (fun _ _ q => Or.inl q))).setI (Or.inr rfl)⟩
          rw [mI_ite]
          by_cases c : q = 64 * r + 8 * t + f
          · rw [if_pos ⟨rfl, c⟩]
            unfold shQ
            rw [show q / 64 = r by omega, show q / 8 % 8 = t by omega, show q % 8 = f by omega]
          · rw [if_neg (fun z => c z.2), (hA5 _ _ (fun z => by unfold mScr at z; omega)).1]
            exact h4 q (by omega)
        have hsv : shV N Ls r t f = if N 1 (8 * r + (((f : Int) - (t : Int)) % 8).toNat) = 1 then 0 else runsF N Ls r (((f : Int) - (t : Int)) % 8) f := rfl
        by_cases c : N 1 (8 * r + (((f : Int) - (t : Int)) % 8).toNat) = 1
        · obtain ⟨M6, e6, h6, hA6⟩ := fin M4 zAg.rfl'
          refine ⟨(B + 105, iI (r : Int), iI (t : Int), iI ((f + 1 : Nat) : Int), M6), ⟨M6, rfl, h6, hA6⟩, fun rr rec => ?_⟩
          show F_Mo_layFalls_L17 n E S rr.1 rr.2 rec (B + 105) (iI (r : Int)) (iI (t : Int)) (iI (f : Int)) M4 = _
          unfold F_Mo_layFalls_L17 F_Mo_layFalls_b76
          rw [iL8, if_neg (cleF (by omega) (by omega) (by omega)), hS.ck105, obs, s_mholeAbove (by omega) (by omega) (by omega) (by omega), obs, hS.g105_45, obs, hS.g105_3, obs, iL44, iI_add, hS.r107 (by omega) (by omega), obs, hM4.2.1.blk (by omega) (by omega), Int.toNat_natCast, s_is hN (by omega) (by omega) (by omega), obs, if_pos (decide_eq_true c), show (64 : Int32) = iI 64 by decide, iI_mul, iI_mul, iI_add, iI_add, hS.w130 (by omega) (by omega), obs, iL1, iI_add, show (64 * (r : Int) + 8 * (t : Int) + (f : Int)).toNat = 64 * r + 8 * t + f by omega, ← e6, hsv, if_pos c]
          rfl
        · obtain ⟨M5, e5, hA5⟩ := s_mruns (n := n) (E := E) (r := (r : Int)) (h := ((f : Int) - (t : Int)) % 8) (f := (f : Int)) hS hM4 hn (by omega) (by omega) (by omega) (by omega) (by omega) (by omega)
          obtain ⟨M6, e6, h6, hA6⟩ := fin M5 hA5
          refine ⟨(B + 105, iI (r : Int), iI (t : Int), iI ((f + 1 : Nat) : Int), M6), ⟨M6, rfl, h6, hA6⟩, fun rr rec => ?_⟩
          show F_Mo_layFalls_L17 n E S rr.1 rr.2 rec (B + 105) (iI (r : Int)) (iI (t : Int)) (iI (f : Int)) M4 = _
          unfold F_Mo_layFalls_L17 F_Mo_layFalls_b76
          rw [iL8, if_neg (cleF (by omega) (by omega) (by omega)), hS.ck105, obs, s_mholeAbove (by omega) (by omega) (by omega) (by omega), obs, hS.g105_45, obs, hS.g105_3, obs, iL44, iI_add, hS.r107 (by omega) (by omega), obs, hM4.2.1.blk (by omega) (by omega), Int.toNat_natCast, s_is hN (by omega) (by omega) (by omega), obs, if_neg (fun z => c (of_decide_eq_true z)), e5, obs, show (64 : Int32) = iI 64 by decide, iI_mul, iI_mul, iI_add, iI_add, hS.w130 (by omega) (by omega), obs, iL1, iI_add, show (64 * (r : Int) + 8 * (t : Int) + (f : Int)).toNat = 64 * r + 8 * t + f by omega, ← e6, hsv, if_neg c]
          rfl) n 0 (B + 105, iI (r : Int), iI (t : Int), 0, M3) (by omega) (by omega) ⟨M3, rfl, fun q hq => h3 q (by omega), hA3⟩
      refine ⟨(B + 105, iI (r : Int), iI ((t + 1 : Nat) : Int), M4), ⟨M4, rfl, fun q hq => h4 q (by omega), hA4⟩, fun r10 rec => ?_⟩
      show F_Mo_layFalls_L9 n E S r10 rec (B + 105) (iI (r : Int)) (iI (t : Int)) M3 = _
      unfold F_Mo_layFalls_L9 F_Mo_layFalls_b17
      obtain ⟨w, e5⟩ := e4 (r10, rec)
      rw [iL8, if_neg (cleF (by omega) (by omega) (by omega))]
      refine e5.trans ?_
      rw [hs4]
      show F_Mo_layFalls_L17 n E S r10 rec _ (B + 105) (iI (r : Int)) (iI (t : Int)) (iI ((8 : Nat) : Int)) M4 = _
      unfold F_Mo_layFalls_L17
      rw [iL8, if_pos (cleT (by omega) (by omega) (by omega)), iL1, iI_add]
      rfl) n 0 (B + 105, iI (r : Int), 0, M1) (by omega) (by omega) ⟨M1, rfl, fun q hq => h1 q (by omega), hA1⟩
    refine ⟨(B + 105, iI ((r + 1 : Nat) : Int), M3), ⟨M3, rfl, fun q hq => h3 q (by omega), hA3⟩, fun rec => ?_⟩
    show F_Mo_layFalls_L2 n E S rec (B + 105) (iI (r : Int)) M1 = _
    unfold F_Mo_layFalls_L2 F_Mo_layFalls_b9
    obtain ⟨w, e5⟩ := e3 rec
    rw [iL4, if_neg (cleF (by omega) (by omega) (by omega))]
    refine e5.trans ?_
    rw [hs3]
    show F_Mo_layFalls_L9 n E S rec _ (B + 105) (iI (r : Int)) (iI ((8 : Nat) : Int)) M3 = _
    unfold F_Mo_layFalls_L9
    rw [iL8, if_pos (cleT (by omega) (by omega) (by omega)), iL1, iI_add]
    rfl) n 0 (B + 105, 0, M) (by omega) (by omega) ⟨M, rfl, fun q hq => by omega, zAg.rfl'⟩
  refine ⟨M1, ?_, fun q hq => h1 q (by omega), hA1⟩
  refine e1.trans ?_
  rw [hs1]
  show F_Mo_layFalls_L2 n E S _ (B + 105) (iI ((4 : Nat) : Int)) M1 = _
  unfold F_Mo_layFalls_L2
  rw [if_pos (by decide)]
/-! settings as four digits -/
def thV (N : Nt) (Ls : Nat → Lw) (s : Nat) (f : Int) : Int := shV N Ls 0 ((s / 512 % 8 : Nat) : Int) f + shV N Ls 1 ((s / 64 % 8 : Nat) : Int) f + shV N Ls 2 ((s / 8 % 8 : Nat) : Int) f + shV N Ls 3 ((s % 8 : Nat) : Int) f
theorem thV_b (hN : NdOK N) {s : Nat} {f : Int} (hf0 : 0 ≤ f) (hf : f < 8) : 0 ≤ thV N Ls s f ∧ thV N Ls s f ≤ 396 := by
  have h0 := shV_b (Ls := Ls) hN (r := 0) (t := ((s / 512 % 8 : Nat) : Int)) (f := f) (by omega) (by omega) (by omega) (by omega) hf0 hf
  have h1 := shV_b (Ls := Ls) hN (r := 1) (t := ((s / 64 % 8 : Nat) : Int)) (f := f) (by omega) (by omega) (by omega) (by omega) hf0 hf
  have h2 := shV_b (Ls := Ls) hN (r := 2) (t := ((s / 8 % 8 : Nat) : Int)) (f := f) (by omega) (by omega) (by omega) (by omega) hf0 hf
  have h3 := shV_b (Ls := Ls) hN (r := 3) (t := ((s % 8 : Nat) : Int)) (f := f) (by omega) (by omega) (by omega) (by omega) hf0 hf
  unfold thV
  omega
theorem sh_rd {q : Nat} (hsh : ∀ q, q < 256 → mI M (B + 98) q = iI (shQ N Ls q)) (r t f : Nat) (hr : r < 4) (ht : t < 8) (hf : f < 8) (hq : q = 64 * r + 8 * t + f) : mI M (B + 98) q = iI (shV N Ls (r : Int) (t : Int) (f : Int)) := by
  rw [hsh q (by omega)]
  unfold shQ
  rw [show q / 64 = r by omega, show q / 8 % 8 = t by omega, show q % 8 = f by omega]
theorem shr6 {x : Int} (h0 : 0 ≤ x) (h1 : x < 100000) : iI x >>> (iI 6 &&& iI 31) = iI (x / 64) := xshr (k := 6) (by decide) (by decide) (by omega) (by omega)
theorem shr3 {x : Int} (h0 : 0 ≤ x) (h1 : x < 100000) : iI x >>> (iI 3 &&& iI 31) = iI (x / 8) := xshr (k := 3) (by decide) (by decide) (by omega) (by omega)
theorem shr9 {x : Int} (h0 : 0 ≤ x) (h1 : x < 100000) : iI x >>> (iI 9 &&& iI 31) = iI (x / 512) := xshr (k := 9) (by decide) (by decide) (by omega) (by omega)
theorem s_three (hS : ShOK S B) (hsh : ∀ q, q < 256 → mI M (B + 98) q = iI (shQ N Ls q)) {s f : Nat} (hs : s < 512) (hf : f < 8) : F_Pa_threadsByThree n E S (B + 85) (iI (s : Int)) (iI (f : Int)) M = some (iI (shV N Ls 0 ((s / 64 % 8 : Nat) : Int) f + shV N Ls 1 ((s / 8 % 8 : Nat) : Int) f + shV N Ls 2 ((s % 8 : Nat) : Int) f), M) := by
  have g0 := sh_rd (q := ((s : Int) / 64 % 8 * 8 + (f : Int)).toNat) hsh 0 (s / 64 % 8) f (by omega) (by omega) hf (by omega)
  have g1 := sh_rd (q := ((8 + (s : Int) / 8 % 8) * 8 + (f : Int)).toNat) hsh 1 (s / 8 % 8) f (by omega) (by omega) hf (by omega)
  have g2 := sh_rd (q := ((16 + (s : Int) % 8) * 8 + (f : Int)).toNat) hsh 2 (s % 8) f (by omega) (by omega) hf (by omega)
  unfold F_Pa_threadsByThree
  rw [hS.g85_2, obs, iL6, iL31, shr6 (by omega) (by omega), iL7, xand7, iL8, iI_mul, iI_add, hS.r98 (by omega) (by omega), obs, iL3, shr3 (by omega) (by omega), xand7, iI_add, iI_mul, iI_add, hS.r98 (by omega) (by omega), obs, iL16, xand7, iI_add, iI_mul, iI_add, hS.r98 (by omega) (by omega), obs, g0, g1, g2, iI_add, iI_add]
  rfl
theorem s_threadsBy (hS : ShOK S B) (hsh : ∀ q, q < 256 → mI M (B + 98) q = iI (shQ N Ls q)) {s f : Nat} (hs : s < 4096) (hf : f < 8) : F_Pa_threadsBy n E S (B + 85) (iI (s : Int)) (iI (f : Int)) M = some (iI (thV N Ls s f), M) := by
  have g3 := sh_rd (q := (192 + (s : Int) % 8 * 8 + (f : Int)).toNat) hsh 3 (s % 8) f (by omega) (by omega) hf (by omega)
  have e := s_three (n := n) (E := E) hS hsh (s := s / 8) (f := f) (by omega) hf
  rw [show ((s / 8 : Nat) : Int) = (s : Int) / 8 by omega] at e
  unfold F_Pa_threadsBy
  rw [hS.ck85, obs, iL3, iL31, shr3 (by omega) (by omega), e, obs, hS.g85_2, obs, iL7, xand7, iL8, iI_mul, show (192 : Int32) = iI 192 by decide, iI_add, iI_add, hS.r98 (by omega) (by omega), obs, g3, iI_add]
  unfold thV
  rw [show s / 8 / 64 % 8 = s / 512 % 8 by omega, show s / 8 / 8 % 8 = s / 64 % 8 by omega]
  rfl
theorem fa_rd {q : Nat} (hsh : ∀ q, q < 256 → mI M (B + 130) q = iI (shQ N Ls q)) (r t f : Nat) (hr : r < 4) (ht : t < 8) (hf : f < 8) (hq : q = 64 * r + 8 * t + f) : mI M (B + 130) q = iI (shV N Ls (r : Int) (t : Int) (f : Int)) := by
  rw [hsh q (by omega)]
  unfold shQ
  rw [show q / 64 = r by omega, show q / 8 % 8 = t by omega, show q % 8 = f by omega]
/-- digit r of a setting -/
def tO (s r : Nat) : Nat := if r = 0 then s / 512 % 8 else if r = 1 then s / 64 % 8 else if r = 2 then s / 8 % 8 else s % 8
theorem tO_b {s r : Nat} : tO s r < 8 := by
  unfold tO
  by_cases c0 : r = 0
  · rw [if_pos c0]; omega
  rw [if_neg c0]
  by_cases c1 : r = 1
  · rw [if_pos c1]; omega
  rw [if_neg c1]
  by_cases c2 : r = 2
  · rw [if_pos c2]; omega
  · rw [if_neg c2]; omega
theorem s_turnOf {s r : Nat} (hs : s < 4096) (hr : r < 4) : F_Mo_turnOf n E S (iI (s : Int)) (iI (r : Int)) M = some (iI (tO s r : Int), M) := by
  unfold F_Mo_turnOf tO
  rw [iL9, iL3, iI_mul, iI_sub, iL31, iL7, xshr (by omega) (by omega) (by omega) (by omega), xand7]
  rcases (show r = 0 ∨ r = 1 ∨ r = 2 ∨ r = 3 by omega) with rfl | rfl | rfl | rfl
  · show some (iI ((s : Int) / 2 ^ 9 % 8), M) = some (iI ((s / 512 % 8 : Nat) : Int), M)
    congr 3
  · show some (iI ((s : Int) / 2 ^ 6 % 8), M) = some (iI ((s / 64 % 8 : Nat) : Int), M)
    congr 3
  · show some (iI ((s : Int) / 2 ^ 3 % 8), M) = some (iI ((s / 8 % 8 : Nat) : Int), M)
    congr 3
  · show some (iI ((s : Int) / 2 ^ 0 % 8), M) = some (iI ((s % 8 : Nat) : Int), M)
    congr 3; omega
theorem s_fallsOn (hS : ShOK S B) (hsh : ∀ q, q < 256 → mI M (B + 130) q = iI (shQ N Ls q)) (hn : 600 ≤ n) {s f : Nat} (hs : s < 4096) (hf : f < 8) : F_Mo_fallsOn n E S (B + 105) (iI (s : Int)) (iI (f : Int)) M = some (iI (thV N Ls s f), M) := by
  have e4 : zsum (fun r => shV N Ls (r : Int) (tO s r : Int) (f : Int)) 4 = thV N Ls s f := by
    unfold thV
    show 0 + shV N Ls ((0 : Nat) : Int) (tO s 0 : Int) f + shV N Ls ((1 : Nat) : Int) (tO s 1 : Int) f + shV N Ls ((2 : Nat) : Int) (tO s 2 : Int) f + shV N Ls ((3 : Nat) : Int) (tO s 3 : Int) f = _
    rw [Int.zero_add]
    rfl
  unfold F_Mo_fallsOn F_Mo_fallsOn_b5
  obtain ⟨m, e⟩ := zfix_for (F := fun r5 s => F_Mo_fallsOn_L5 n E S r5 s.1 s.2.1 s.2.2.1 s.2.2.2.1 s.2.2.2.2.1 s.2.2.2.2.2) (fun i => (B + 105, iI (s : Int), iI (f : Int), iI (zsum (fun r => shV N Ls (r : Int) (tO s r : Int) (f : Int)) i), iI (i : Int), M)) 4 (fun i hi rec => by
    have ht := tO_b (s := s) (r := i)
    have g := fa_rd (q := (64 * (i : Int) + 8 * (tO s i : Int) + (f : Int)).toNat) hsh i (tO s i) f hi ht hf (by omega)
    show F_Mo_fallsOn_L5 n E S rec (B + 105) (iI (s : Int)) (iI (f : Int)) (iI (zsum (fun r => shV N Ls (r : Int) (tO s r : Int) (f : Int)) i)) (iI (i : Int)) M = _
    unfold F_Mo_fallsOn_L5
    rw [iL4, if_neg (cleF (by omega) (by omega) (by omega)), hS.g105_45, obs, s_turnOf hs hi, obs, show (64 : Int32) = iI 64 by decide, iI_mul, iL8, iI_mul, iI_add, iI_add, hS.r130 (by omega) (by omega), obs, g, iI_add, iL1, iI_add]
    rfl) (k := n) (by omega)
  refine e.trans ?_
  show F_Mo_fallsOn_L5 n E S _ (B + 105) (iI (s : Int)) (iI (f : Int)) (iI (zsum (fun r => shV N Ls (r : Int) (tO s r : Int) (f : Int)) 4)) (iI ((4 : Nat) : Int)) M = _
  unfold F_Mo_fallsOn_L5
  rw [if_pos (by decide), e4]
end
