/-! CASES (15): placed, what a bucket catches on a field -/
/-- hours of bucket b on field f: the night, what was caught -/
def plIt (N : Nt) (Ls : Nat → Lw) (b : Nat) (f : Int) : Nat → Nt × Int
  | 0 => (nset N 5 b f, 0)
  | h + 1 => (nturn (cSt (plIt N Ls b f h).1 Ls b (min ((plIt N Ls b f h).1 3 b - (plIt N Ls b f h).1 4 b) (flowV (nT N h) Ls f))) 1, (plIt N Ls b f h).2 + min ((plIt N Ls b f h).1 3 b - (plIt N Ls b f h).1 4 b) (flowV (nT N h) Ls f))
def ctV (N : Nt) (Ls : Nat → Lw) (hrs b f : Nat) : Int := if barV N Ls (b : Int) (f : Int) = 1 then -1 else (plIt N Ls b (f : Int) hrs).2
theorem cSt_c {N : Nt} {Ls : Nat → Lw} {b : Nat} {x : Int} {c k : Nat} (h : c ≠ 4) : cSt N Ls b x c k = N c k := by
  unfold cSt cN1
  rw [nset_c h, nset_c h]
theorem plIt_c {N : Nt} {Ls : Nat → Lw} {b : Nat} {f : Int} : ∀ (h c k : Nat), c ≠ 4 → c ≠ 5 → (plIt N Ls b f h).1 c k = nT N h c k := by
  intro h
  induction h with
  | zero => intro c k _ h5; exact nset_c h5
  | succ h ih =>
    intro c k h4 h5
    show nturn (cSt (plIt N Ls b f h).1 Ls b _) 1 c k = nturn (nT N h) 1 c k
    unfold nturn
    by_cases q : c = 2 ∧ k < 4
    · rw [if_pos q, if_pos q, cSt_c (by decide), ih 2 k (by decide) (by decide)]
    · rw [if_neg q, if_neg q]
      by_cases q2 : c = 9 ∧ k = 0
      · rw [if_pos q2, if_pos q2, cSt_c (by decide), ih 9 0 (by decide) (by decide)]
      · rw [if_neg q2, if_neg q2, cSt_c h4]; exact ih c k h4 h5
theorem nT_c {N : Nt} : ∀ (h c k : Nat), c ≠ 2 → ¬ (c = 9 ∧ k = 0) → nT N h c k = N c k := by
  intro h
  induction h with
  | zero => intro c k _ _; rfl
  | succ h ih =>
    intro c k h2 h9
    show nturn (nT N h) 1 c k = _
    unfold nturn
    rw [if_neg (fun q => h2 q.1), if_neg h9]; exact ih c k h2 h9
theorem plIt_f {N : Nt} {Ls : Nat → Lw} {b : Nat} {f : Int} (h : Nat) (g : Int) : flowV (plIt N Ls b f h).1 Ls g = flowV (nT N h) Ls g :=
  flowV_cg (funext fun k => plIt_c h 0 k (by decide) (by decide)) (funext fun k => plIt_c h 1 k (by decide) (by decide)) (funext fun k => plIt_c h 2 k (by decide) (by decide)) (funext fun k => plIt_c h 9 k (by decide) (by decide)) (funext fun k => plIt_c h 14 k (by decide) (by decide)) g
theorem plIt_ok {N : Nt} {Ls : Nat → Lw} {b : Nat} {f : Int} (hN : NdOK N) (hh : N 9 0 ≤ 999) (hb : b < 3) (hf0 : 0 ≤ f) (hf : f < 8) : ∀ h : Nat, h ≤ 9 → NdOK (plIt N Ls b f h).1 ∧ (0 ≤ (plIt N Ls b f h).2 ∧ (plIt N Ls b f h).2 ≤ 99 * h) := by
  intro h
  induction h with
  | zero => intro _; exact ⟨hN.s5 hf0 hf, Int.le_refl 0, Int.le_refl 0⟩
  | succ h ih =>
    intro hl
    obtain ⟨g1, g2⟩ := ih (by omega)
    have hfl := flowV_b (Ls := Ls) (f := f) (nT_ok hN hh h (by omega))
    have hlv := g1.lev hb
    have hsz := g1.size hb
    have e9 : (plIt N Ls b f h).1 9 0 = N 9 0 + h := by rw [plIt_c h 9 0 (by decide) (by decide), nT_9]
    show NdOK (nturn (cSt (plIt N Ls b f h).1 Ls b (min ((plIt N Ls b f h).1 3 b - (plIt N Ls b f h).1 4 b) (flowV (nT N h) Ls f))) 1) ∧ (0 ≤ (plIt N Ls b f h).2 + min ((plIt N Ls b f h).1 3 b - (plIt N Ls b f h).1 4 b) (flowV (nT N h) Ls f) ∧ (plIt N Ls b f h).2 + min ((plIt N Ls b f h).1 3 b - (plIt N Ls b f h).1 4 b) (flowV (nT N h) Ls f) ≤ 99 * ((h + 1 : Nat) : Int))
    generalize plIt N Ls b f h = PP at *
    obtain ⟨Q, v⟩ := PP
    dsimp only at *
    have hlk := leakV_b (N := cN1 Q b (min (Q 3 b - Q 4 b) (flowV (nT N h) Ls f))) (Ls := Ls) (b := (b : Int))
    have k1 : NdOK (cN1 Q b (min (Q 3 b - Q 4 b) (flowV (nT N h) Ls f))) := g1.s4 (by omega) (by omega)
    have k2 : NdOK (cSt Q Ls b (min (Q 3 b - Q 4 b) (flowV (nT N h) Ls f))) := k1.s4 (by omega) (show _ ≤ Q 3 b by omega)
    exact ⟨k2.turn1 (by rw [cSt_c (by decide)]; omega), by omega, by omega⟩
theorem ctV_b {N : Nt} {Ls : Nat → Lw} (hN : NdOK N) (hh : N 9 0 ≤ 999) {hrs b f : Nat} (hr : hrs ≤ 9) (hb : b < 3) (hf : f < 8) : -1 ≤ ctV N Ls hrs b f ∧ ctV N Ls hrs b f ≤ 891 := by
  have := (plIt_ok (Ls := Ls) hN hh hb (f := (f : Int)) (by omega) (by omega) hrs hr).2
  unfold ctV
  split <;> omega
section
variable {n : Nat} {E : zE} {S : zS} {M M' : zH} {B : Nat} {N N' : Nt} {Ls : Nat → Lw}
theorem s_findFalls (hS : ShOK S B) (hC : CN S M B (B + 1) N Ls) (hh : N 9 0 ≤ 999) (hn : 600 ≤ n) {hrs : Nat} (hr : hrs ≤ 9) : ∃ M', F_Pa_findFalls n E S (B + 85) (B + 1) (iI (hrs : Int)) M = some M' ∧ (∀ h f : Nat, h < hrs → f < 8 → mI M' (B + 99) (8 * h + f) = iI (flowV (nT N h) Ls (f : Int))) ∧ zAg (cQ B) M M' := by
  have hN := hC.2.1
  have hI := nA86.ni hS
  obtain ⟨M0, e0, hC0, hA0⟩ := s_sketch (n := n) (E := E) hS hC hn
  unfold F_Pa_findFalls F_Pa_findFalls_b10
  rw [hS.g85_1, obs, hI.ck, obs, e0, obs]
  obtain ⟨s1, w1, ⟨M1, hs1, hC1, h1, hA1⟩, e1⟩ := zfix_inv (F := fun r10 s => F_Pa_findFalls_L10 n E S r10 s.1 s.2.1 s.2.2.1 s.2.2.2) (fun h s => ∃ M1, s = (B + 85, iI (hrs : Int), iI (h : Int), M1) ∧ CN S M1 B (B + 86) (nT N h) Ls ∧ (∀ q f : Nat, q < h → f < 8 → mI M1 (B + 99) (8 * q + f) = iI (flowV (nT N q) Ls (f : Int))) ∧ zAg (cQ B) M M1) hrs (fun h hl s hI' => by
    obtain ⟨M1, rfl, hC1, h1, hA1⟩ := hI'
    obtain ⟨s2, ⟨M2, hs2, hC2, h2, hA2⟩, e2⟩ := zfix_inv2 (F := fun r10 r24 s => F_Pa_findFalls_L24 n E S r10 r24 s.1 s.2.1 s.2.2.1 s.2.2.2.1 s.2.2.2.2) (fun f s => ∃ M2, s = (B + 85, iI (hrs : Int), iI (h : Int), iI (f : Int), M2) ∧ CN S M2 B (B + 86) (nT N h) Ls ∧ (∀ q g : Nat, (q < h ∧ g < 8) ∨ (q = h ∧ g < f) → mI M2 (B + 99) (8 * q + g) = iI (flowV (nT N q) Ls (g : Int))) ∧ zAg (cQ B) M M2) 8 (fun f hf s hI' => by
      obtain ⟨M2, rfl, hC2, h2, hA2⟩ := hI'
      obtain ⟨M3, e3, hA3⟩ := s_threadsOn (n := n) (E := E) (f := (f : Int)) hS nA86 hC2 hn (by omega) (by omega)
      have hA4 : zAg (fun b j => b = B + 99) M3 (setI M3 (B + 99) (8 * h + f) (iI (flowV (nT N h) Ls (f : Int)))) := zAg.rfl'.setI rfl
      refine ⟨(B + 85, iI (hrs : Int), iI (h : Int), iI ((f + 1 : Nat) : Int), setI M3 (B + 99) (8 * h + f) (iI (flowV (nT N h) Ls (f : Int)))), ⟨_, rfl, (hC2.scr nA86 hA3).ag hA4 (fun b j q => by omega), fun q g hq => ?_, (hA2.trans (cQ_c hA3)).trans (hA4.mono (fun b j q => by unfold cQ; omega))⟩, fun r10 rec => ?_⟩
      · rw [mI_ite]
        by_cases c : q = h ∧ g = f
        · rw [if_pos ⟨rfl, by omega⟩, c.1, c.2]
        · rw [if_neg (fun z => c (by omega)), (hA3 _ _ (fun z => by unfold cScr at z; omega)).1]
          exact h2 q g (by omega)
      · show F_Pa_findFalls_L24 n E S r10 rec (B + 85) (iI (hrs : Int)) (iI (h : Int)) (iI (f : Int)) M2 = _
        unfold F_Pa_findFalls_L24
        rw [iL8, if_neg (cleF (by omega) (by omega) (by omega)), hS.g85_3, obs, hS.g85_0, obs, hS.g85_1, obs, hS.ck76, obs, e3, obs, iI_mul, iI_add, hS.w99 (by omega) (by omega), obs, iL1, iI_add, show ((h : Int) * 8 + (f : Int)).toNat = 8 * h + f by omega]
        rfl) n 0 (B + 85, iI (hrs : Int), iI (h : Int), 0, M1) (by omega) (by omega) ⟨M1, rfl, hC1, fun q g hq => h1 q g (by omega) (by omega), hA1⟩
    obtain ⟨M3, e3, hC3, hA3⟩ := CN.tu (n := n) (E := E) hS nA86 hC2 hn (by rw [nT_9]; omega)
    refine ⟨(B + 85, iI (hrs : Int), iI ((h + 1 : Nat) : Int), M3), ⟨M3, rfl, hC3, fun q g hq hg => by rw [(hA3 _ _ (fun z => by omega)).1]; exact h2 q g (by omega), hA2.trans (hA3.mono (fun b j q => by unfold cQ; omega))⟩, fun rec => ?_⟩
    show F_Pa_findFalls_L10 n E S rec (B + 85) (iI (hrs : Int)) (iI (h : Int)) M1 = _
    unfold F_Pa_findFalls_L10 F_Pa_findFalls_b24
    obtain ⟨w, e5⟩ := e2 rec
    rw [if_neg (cleF (by omega) (by omega) (by omega)), iL9, if_neg (cleF (by omega) (by omega) (by omega))]
    refine e5.trans ?_
    rw [hs2]
    show F_Pa_findFalls_L24 n E S rec _ (B + 85) (iI (hrs : Int)) (iI (h : Int)) (iI ((8 : Nat) : Int)) M2 = _
    unfold F_Pa_findFalls_L24
    rw [iL8, if_pos (cleT (by omega) (by omega) (by omega)), hS.g85_1, obs, hI.ck, obs, iL1, e3, obs, iI_add]
    rfl) n 0 (B + 85, iI (hrs : Int), 0, M0) (by omega) (by omega) ⟨M0, rfl, hC0, fun q f hq => by omega, hA0⟩
  refine ⟨M1, ?_, fun h f hq hf => h1 h f hq hf, hA1⟩
  refine e1.trans ?_
  rw [hs1]
  show F_Pa_findFalls_L10 n E S _ (B + 85) (iI (hrs : Int)) (iI (hrs : Int)) M1 = _
  unfold F_Pa_findFalls_L10
  rw [if_pos (cleT (by omega) (by omega) (by omega))]
theorem s_catchOn (hS : ShOK S B) (hC : CN S M B (B + 1) N Ls) (hh : N 9 0 ≤ 999) (hn : 600 ≤ n) {hrs b f : Nat} (hr : hrs ≤ 9) (hb : b < 3) (hf : f < 8) (hfa : ∀ h f : Nat, h < hrs → f < 8 → mI M (B + 99) (8 * h + f) = iI (flowV (nT N h) Ls (f : Int))) : ∃ M', F_Pa_catchOn n E S (B + 85) (B + 1) (iI (b : Int)) (iI (f : Int)) (iI (hrs : Int)) M = some (iI (plIt N Ls b (f : Int) hrs).2, M') ∧ zAg (fun q j => cScr B q j ∨ (B + 86 ≤ q ∧ q < B + 98)) M M' := by
  have hN := hC.2.1
  have hI := nA86.ni hS
  obtain ⟨M0, e0, hR0, hr0, hA0⟩ := s_copyFrom (n := n) (E := E) hS.ske hS.now hC.1 hC.2.1 (by omega) (by omega) (fun j hj t ht => ((hC.2.2 j hj).1 t ht).1)
  have hC0 : CN S M0 B (B + 86) N Ls := hC.copy hR0 hr0 hA0 (fun b j q => by unfold nCells at q; omega)
  have hC1 : CN S (setI M0 (B + 86 + 1 + 5) b (iI (f : Int))) B (B + 86) (nset N 5 b (f : Int)) Ls := hC0.set nA86 (by decide) rfl (hN.s5 (by omega) (by omega))
  unfold F_Pa_catchOn F_Pa_catchOn_b24
  rw [hS.g85_1, obs, hI.ck, obs, e0, obs, hI.g5, obs, hI.w5 (by omega) (by omega), obs, Int.toNat_natCast]
  obtain ⟨s1, w1, ⟨M1, hs1, hC1, hA1⟩, e1⟩ := zfix_inv (F := fun r24 s => F_Pa_catchOn_L24 n E S r24 s.1 s.2.1 s.2.2.1 s.2.2.2.1 s.2.2.2.2.1 s.2.2.2.2.2.1 s.2.2.2.2.2.2) (fun h s => ∃ M1, s = (B + 85, iI (b : Int), iI (f : Int), iI (hrs : Int), iI (plIt N Ls b (f : Int) h).2, iI (h : Int), M1) ∧ CN S M1 B (B + 86) (plIt N Ls b (f : Int) h).1 Ls ∧ zAg (fun q j => cScr B q j ∨ (B + 86 ≤ q ∧ q < B + 98)) M M1) hrs (fun h hl s hI' => by
    obtain ⟨M1, rfl, hC1, hA1⟩ := hI'
    have hfl := flowV_b (Ls := Ls) (f := (f : Int)) (nT_ok hN hh h (by omega))
    have e99 : mI M1 (B + 99) (8 * h + f) = iI (flowV (nT N h) Ls (f : Int)) := by rw [(hA1 _ _ (fun z => by unfold cScr at z; omega)).1]; exact hfa h f hl hf
    have hpo := (plIt_ok (Ls := Ls) hN hh hb (f := (f : Int)) (by omega) (by omega) h (by omega)).2
    have e9 : (plIt N Ls b (f : Int) h).1 9 0 = N 9 0 + h := by rw [plIt_c h 9 0 (by decide) (by decide), nT_9]
    have ess : plIt N Ls b (f : Int) (h + 1) = (nturn (cSt (plIt N Ls b (f : Int) h).1 Ls b (min ((plIt N Ls b (f : Int) h).1 3 b - (plIt N Ls b (f : Int) h).1 4 b) (flowV (nT N h) Ls (f : Int)))) 1, (plIt N Ls b (f : Int) h).2 + min ((plIt N Ls b (f : Int) h).1 3 b - (plIt N Ls b (f : Int) h).1 4 b) (flowV (nT N h) Ls (f : Int))) := rfl
    rw [ess]
    generalize plIt N Ls b (f : Int) h = PP at *
    obtain ⟨Q, v⟩ := PP
    dsimp only at *
    have hN1 := hC1.2.1
    have hlv := hN1.lev hb
    have hsz := hN1.size hb
    have hlk := leakV_b (N := cN1 Q b (min (Q 3 b - Q 4 b) (flowV (nT N h) Ls (f : Int)))) (Ls := Ls) (b := (b : Int))
    have k1 : NdOK (cN1 Q b (min (Q 3 b - Q 4 b) (flowV (nT N h) Ls (f : Int)))) := hN1.s4 (by omega) (by omega)
    have k2 : NdOK (cSt Q Ls b (min (Q 3 b - Q 4 b) (flowV (nT N h) Ls (f : Int)))) := k1.s4 (by omega) (show _ ≤ Q 3 b by omega)
    generalize hcc : min (Q 3 b - Q 4 b) (flowV (nT N h) Ls (f : Int)) = c at *
    have hC2 : CN S (setI M1 (B + 86 + 1 + 4) b (iI (Q 4 b + c))) B (B + 86) (cN1 Q b c) Ls := hC1.set nA86 (by decide) rfl k1
    obtain ⟨M3, e3, hA3⟩ := s_leakOf (n := n) (E := E) (b := (b : Int)) hS nA86 hC2 hn (by omega) (by omega)
    have hC3 := hC2.scr nA86 hA3
    have hC4 : CN S (setI M3 (B + 86 + 1 + 4) b (iI (max 0 (Q 4 b + c - leakV (cN1 Q b c) Ls b)))) B (B + 86) (cSt Q Ls b c) Ls := hC3.set nA86 (by decide) rfl k2
    obtain ⟨M5, e5, hC5, hA5⟩ := CN.tu (n := n) (E := E) hS nA86 hC4 hn (by rw [cSt_c (by decide)]; omega)
    refine ⟨(B + 85, iI (b : Int), iI (f : Int), iI (hrs : Int), iI (v + c), iI ((h + 1 : Nat) : Int), M5), ⟨M5, rfl, hC5, ?_⟩, fun rec => ?_⟩
    · refine (((hA1.setI ?_).trans (hA3.mono (fun b j q => Or.inl q))).setI ?_).trans (hA5.mono (fun b j q => ?_))
      · right; omega
      · right; omega
      · right; omega
    · show F_Pa_catchOn_L24 n E S rec (B + 85) (iI (b : Int)) (iI (f : Int)) (iI (hrs : Int)) (iI v) (iI (h : Int)) M1 = _
      have e4n : cN1 Q b c 4 b = Q 4 b + c := nset_s
      unfold F_Pa_catchOn_L24
      rw [if_neg (cleF (by omega) (by omega) (by omega)), iL9, if_neg (cleF (by omega) (by omega) (by omega)), hS.g85_1, obs, hI.g3, obs, hI.r3 hC1.1 (by omega) (by omega), obs, hI.g4, obs, hI.r4 hC1.1 (by omega) (by omega), obs, hS.g85_3, obs, iL8, iI_mul, iI_add, hS.r99 (by omega) (by omega), obs, show ((h : Int) * 8 + (f : Int)).toNat = 8 * h + f by omega, e99, Int.toNat_natCast, iI_sub, s_minI (zR_of (by omega) (by omega)) (zR_of (by omega) (by omega)), obs, hcc, hI.r4 hC1.1 (by omega) (by omega), obs, Int.toNat_natCast, iI_add, hI.w4 (by omega) (by omega), obs, Int.toNat_natCast, hI.r4 hC2.1 (by omega) (by omega), obs, Int.toNat_natCast, e4n, hS.g85_0, obs, hS.ck76, obs, e3, obs, iI_sub, iL0, s_maxI (zR_of (by omega) (by omega)) (zR_of (by omega) (by omega)), obs, hI.w4 (by omega) (by omega), obs, Int.toNat_natCast, iL1, e5, obs, iI_add, iI_add]
      rfl) n 0 (B + 85, iI (b : Int), iI (f : Int), iI (hrs : Int), 0, 0, setI M0 (B + 86 + 1 + 5) b (iI (f : Int))) (by omega) (by omega) ⟨_, rfl, hC1, (hA0.mono (fun b j q => by unfold nCells at q; right; omega)).setI (by right; omega)⟩
  refine ⟨M1, ?_, hA1⟩
  refine e1.trans ?_
  rw [hs1]
  show F_Pa_catchOn_L24 n E S _ (B + 85) (iI (b : Int)) (iI (f : Int)) (iI (hrs : Int)) (iI (plIt N Ls b (f : Int) hrs).2) (iI (hrs : Int)) M1 = _
  unfold F_Pa_catchOn_L24
  rw [if_pos (cleT (by omega) (by omega) (by omega))]
/-- the model's table -/
theorem s_layCaught (hS : ShOK S B) (hM : MN M B N Ls) (hh : N 9 0 ≤ 999) (hn : 600 ≤ n) {hrs : Nat} (hr : hrs ≤ 9) : ∃ M', F_Mo_layCaught n E S (B + 105) (iI (hrs : Int)) M = some M' ∧ (∀ b f : Nat, (b : Int) < N 11 0 → f < 8 → mI M' (B + 127) (8 * b + f) = iI (ctV N Ls hrs b f)) ∧ mP B M M' := by
  have hN := hM.2.2.1
  have hnb := hN.nb
  unfold F_Mo_layCaught F_Mo_layCaught_b2
  obtain ⟨s0, w0, ⟨M0, hs0, h0, hA0⟩, e0⟩ := zfix_inv (F := fun r2 s => F_Mo_layCaught_L2 n E S r2 s.1 s.2.1 s.2.2.1 s.2.2.2) (fun k s => ∃ M0, s = (B + 105, iI (hrs : Int), iI (k : Int), M0) ∧ (∀ q : Nat, q < k → mI M0 (B + 127) q = iI (-1)) ∧ zAg (mQ B) M M0) 24 (fun k hk s hI' => by
    obtain ⟨M0, rfl, h0, hA0⟩ := hI'
    refine ⟨(B + 105, iI (hrs : Int), iI ((k + 1 : Nat) : Int), setI M0 (B + 127) k (iI (-1))), ⟨_, rfl, fun q hq => ?_, hA0.setI (by unfold mQ; omega)⟩, fun rec => ?_⟩
    · rw [mI_ite]
      by_cases c : q = k
      · rw [if_pos ⟨rfl, c⟩]
      · rw [if_neg (fun z => c z.2), h0 q (by omega)]
    · show F_Mo_layCaught_L2 n E S rec (B + 105) (iI (hrs : Int)) (iI (k : Int)) M0 = _
      unfold F_Mo_layCaught_L2
      rw [iL24, if_neg (cleF (by omega) (by omega) (by omega)), hS.g105_42, obs, hS.w127 (by omega) (by omega), obs, iL1, iI_add, iI_neg, Int.toNat_natCast]
      rfl) n 0 (B + 105, iI (hrs : Int), 0, M) (by omega) (by omega) ⟨M, rfl, fun q hq => by omega, zAg.rfl'⟩
  have hP0 : mP B M M0 := mP.q hA0
  -- what a round keeps
  have MNp : ∀ {P Q : zH}, MN P B N Ls → mP B P Q → MN Q B N Ls := fun h q => ⟨by rw [(q.1 _ _ (fun z => by unfold mQ at z; omega)).1]; exact h.1, h.2.1.cg (fun i _ => q.2 i), h.2.2.1, fun j hj hl => (h.2.2.2 j hj hl).cg (fun i _ _ => q.2 i)⟩
  obtain ⟨s1, w1, ⟨M1, hs1, h1, hP1⟩, e1⟩ := zfix_inv (F := fun r23 s => F_Mo_layCaught_L23 n E S r23 s.1 s.2.1 s.2.2.1 s.2.2.2) (fun b s => ∃ M1, s = (B + 105, iI (hrs : Int), iI (b : Int), M1) ∧ (∀ q : Nat, q < 24 → mI M1 (B + 127) q = iI (if q < 8 * b then ctV N Ls hrs (q / 8) (q % 8) else -1)) ∧ mP B M M1) (N 11 0).toNat (fun b hb s hI' => by
    obtain ⟨M1, rfl, h1, hP1⟩ := hI'
    have hM1 := MNp hM hP1
    obtain ⟨s2, ⟨M2, hs2, h2, hP2⟩, e2⟩ := zfix_inv2 (F := fun r23 r35 s => F_Mo_layCaught_L35 n E S r23 r35 s.1 s.2.1 s.2.2.1 s.2.2.2.1 s.2.2.2.2) (fun f s => ∃ M2, s = (B + 105, iI (hrs : Int), iI (b : Int), iI (f : Int), M2) ∧ (∀ q : Nat, q < 24 → mI M2 (B + 127) q = iI (if q < 8 * b + f then ctV N Ls hrs (q / 8) (q % 8) else -1)) ∧ mP B M M2) 8 (fun f hf s hI' => by
      obtain ⟨M2, rfl, h2, hP2⟩ := hI'
      have hM2 := MNp hM hP2
      obtain ⟨M3, e3, hA3⟩ := s_mbarred (n := n) (E := E) (b := (b : Int)) (f := (f : Int)) hS hM2 (by omega) (by omega) (by omega) (by omega) (by omega)
      have hM3 := hM2.scr hA3
      have h127 : ∀ q, mI M3 (B + 127) q = mI M2 (B + 127) q := fun q => (hA3 _ _ (fun z => by unfold mScr at z; omega)).1
      by_cases c : barV N Ls (b : Int) (f : Int) = 1
      · refine ⟨(B + 105, iI (hrs : Int), iI (b : Int), iI ((f + 1 : Nat) : Int), M3), ⟨M3, rfl, fun q hq => ?_, hP2.trans (mP.q (mQ_m hA3))⟩, fun r23 rec => ?_⟩
        · rw [h127, h2 q hq]
          by_cases d : q = 8 * b + f
          · rw [if_neg (by omega), if_pos (by omega), show q / 8 = b by omega, show q % 8 = f by omega]
            unfold ctV; rw [if_pos c]
          · by_cases d2 : q < 8 * b + f
            · rw [if_pos d2, if_pos (by omega)]
            · rw [if_neg d2, if_neg (by omega)]
        · show F_Mo_layCaught_L35 n E S r23 rec (B + 105) (iI (hrs : Int)) (iI (b : Int)) (iI (f : Int)) M2 = _
          unfold F_Mo_layCaught_L35 F_Mo_layCaught_b122
          rw [iL8, if_neg (cleF (by omega) (by omega) (by omega)), hS.ck105, obs, e3, obs, if_pos (show (decide (barV N Ls (b : Int) (f : Int) = 1), M3).1 = true from decide_eq_true c), iL1, iI_add]
          rfl
      · obtain ⟨M4, e4, hM4, h4, hA4⟩ := paper_in (n := n) (E := E) hS hn hM3
        have hM5 : MN (setI M4 (B + 107) (51 + b) (iI (f : Int))) B (nset N 5 b (f : Int)) Ls := hM4.st (by omega) (hM4.2.1.s_fie (k := b) (by omega) (f : Int)) (hN.s5 (by omega) (by omega)) rfl
        have hA5 : zAg (fun b j => (b = B + 107 ∧ 4 ≤ j ∧ j < 54) ∨ mScr B b j) M4 (setI M4 (B + 107) (51 + b) (iI (f : Int))) := zAg.rfl'.setI (Or.inl ⟨rfl, by omega, by omega⟩)
        obtain ⟨s6, ⟨M6, hs6, hM6, hA6⟩, e6⟩ := zfix_inv2 (ρ := (Nat × Int32 × Int32 × zH → Option zH) × (Nat × Int32 × Int32 × Int32 × zH → Option zH)) (F := fun rr r72 s => F_Mo_layCaught_L72 n E S rr.1 rr.2 r72 s.1 s.2.1 s.2.2.1 s.2.2.2.1 s.2.2.2.2.1 s.2.2.2.2.2.1 s.2.2.2.2.2.2) (fun h s => ∃ M6, s = (B + 105, iI (hrs : Int), iI (b : Int), iI (f : Int), iI (plIt N Ls b (f : Int) h).2, iI (h : Int), M6) ∧ MN M6 B (plIt N Ls b (f : Int) h).1 Ls ∧ zAg (fun b j => (b = B + 107 ∧ 4 ≤ j ∧ j < 54) ∨ mScr B b j) M4 M6) hrs (fun h hl s hI' => by
          obtain ⟨M6, rfl, hM6, hA6⟩ := hI'
          have hfl := flowV_b (Ls := Ls) (f := (f : Int)) (nT_ok hN hh h (by omega))
          have efl := plIt_f (N := N) (Ls := Ls) (b := b) (f := (f : Int)) h (f : Int)
          have hpo := (plIt_ok (Ls := Ls) hN hh (b := b) (by omega) (f := (f : Int)) (by omega) (by omega) h (by omega)).2
          have e9 : (plIt N Ls b (f : Int) h).1 9 0 = N 9 0 + h := by rw [plIt_c h 9 0 (by decide) (by decide), nT_9]
          obtain ⟨M7, e7, hA7⟩ := s_mflow (n := n) (E := E) (f := (f : Int)) hS hM6 hn (by omega) (by omega)
          rw [efl] at e7
          have hM7 := hM6.scr hA7
          obtain ⟨M8, e8, hM8, hA8⟩ := s_mcatch (n := n) (E := E) hS hM7 hn (b := b) (by omega) (f := flowV (nT N h) Ls (f : Int)) hfl.1 (by omega)
          obtain ⟨M9, e9', hM9, hA9⟩ := MN.tu (n := n) (E := E) hS hM8 hn (by rw [cSt_c (by decide)]; omega)
          refine ⟨(B + 105, iI (hrs : Int), iI (b : Int), iI (f : Int), iI (plIt N Ls b (f : Int) (h + 1)).2, iI ((h + 1 : Nat) : Int), M9), ⟨M9, rfl, hM9, ((hA6.trans (hA7.mono (fun b j q => Or.inr q))).trans (hA8.mono (fun b j q => ?_))).trans (hA9.mono (fun b j q => ?_))⟩, fun rr rec => ?_⟩
          · unfold caX at q; rcases q with q | q
            · exact Or.inr q
            · left; omega
          · unfold tuX at q; left; omega
          · show F_Mo_layCaught_L72 n E S rr.1 rr.2 rec (B + 105) (iI (hrs : Int)) (iI (b : Int)) (iI (f : Int)) (iI (plIt N Ls b (f : Int) h).2) (iI (h : Int)) M6 = _
            unfold F_Mo_layCaught_L72
            rw [if_neg (cleF (by omega) (by omega) (by omega)), hS.ck105, obs, e7, obs, e8, obs, e9', obs, iI_add, iL1, iI_add]
            rfl) n 0 (B + 105, iI (hrs : Int), iI (b : Int), iI (f : Int), 0, 0, setI M4 (B + 107) (51 + b) (iI (f : Int))) (by omega) (by omega) ⟨_, rfl, hM5, hA5⟩
        obtain ⟨M7, e7, hP7⟩ := paper_out (n := n) (E := E) hS hn h4 hA4 (hA6.mono (fun b j q => by unfold mScr at q; unfold ppX; omega))
        obtain ⟨M7', e7', _, hA7'⟩ := s_putBack (n := n) (E := E) (M := M6) (k := 16) hS hn (by decide)
        have e77 : M7' = M7 := Option.some.inj (e7'.symm.trans e7)
        subst e77
        have h127' : ∀ q, mI M7' (B + 127) q = mI M2 (B + 127) q := fun q => by
          rw [(hA7' _ _ (fun z => by omega)).1, (hA6 _ _ (fun z => by unfold mScr at z; omega)).1, (hA4 _ _ (fun z => by omega)).1, h127]
        have hP8 : mP B M (setI M7' (B + 127) (8 * b + f) (iI (plIt N Ls b (f : Int) hrs).2)) := by
          have := (hP2.trans (mP.q (mQ_m hA3))).trans hP7
          exact this.trans (mP.q (zAg.rfl'.setI (by unfold mQ; omega)))
        refine ⟨(B + 105, iI (hrs : Int), iI (b : Int), iI ((f + 1 : Nat) : Int), setI M7' (B + 127) (8 * b + f) (iI (plIt N Ls b (f : Int) hrs).2)), ⟨_, rfl, fun q hq => ?_, hP8⟩, fun r23 rec => ?_⟩
        · rw [mI_ite]
          by_cases d : q = 8 * b + f
          · rw [if_pos ⟨rfl, d⟩, if_pos (by omega), show q / 8 = b by omega, show q % 8 = f by omega]
            unfold ctV; rw [if_neg c]
          · rw [if_neg (fun z => d z.2), h127', h2 q hq]
            by_cases d2 : q < 8 * b + f
            · rw [if_pos d2, if_pos (by omega)]
            · rw [if_neg d2, if_neg (by omega)]
        · show F_Mo_layCaught_L35 n E S r23 rec (B + 105) (iI (hrs : Int)) (iI (b : Int)) (iI (f : Int)) M2 = _
          unfold F_Mo_layCaught_L35 F_Mo_layCaught_b72
          obtain ⟨w, e5⟩ := e6 (r23, rec)
          rw [iL8, if_neg (cleF (by omega) (by omega) (by omega)), hS.ck105, obs, e3, obs, if_neg (show ¬ (decide (barV N Ls (b : Int) (f : Int) = 1), M3).1 = true from fun z => c (of_decide_eq_true z)), iL16, e4, obs, hS.g105_3, obs, show (51 : Int32) = iI 51 by decide, iI_add, hS.w107 (by omega) (by omega), obs, show (51 + (b : Int)).toNat = 51 + b by omega]
          refine e5.trans ?_
          rw [hs6]
          show F_Mo_layCaught_L72 n E S r23 rec _ (B + 105) (iI (hrs : Int)) (iI (b : Int)) (iI (f : Int)) (iI (plIt N Ls b (f : Int) hrs).2) (iI (hrs : Int)) M6 = _
          unfold F_Mo_layCaught_L72 F_Mo_layCaught_b122
          rw [if_pos (cleT (by omega) (by omega) (by omega)), hS.ck105, obs, iL16, e7, obs, hS.g105_42, obs, iL8, iI_mul, iI_add, hS.w127 (by omega) (by omega), obs, iL1, iI_add, show (8 * (b : Int) + (f : Int)).toNat = 8 * b + f by omega]
          rfl) n 0 (B + 105, iI (hrs : Int), iI (b : Int), 0, M1) (by omega) (by omega) ⟨M1, rfl, fun q hq => h1 q hq, hP1⟩
    refine ⟨(B + 105, iI (hrs : Int), iI ((b + 1 : Nat) : Int), M2), ⟨M2, rfl, fun q hq => by rw [show 8 * (b + 1) = 8 * b + 8 by omega]; exact h2 q hq, hP2⟩, fun rec => ?_⟩
    show F_Mo_layCaught_L23 n E S rec (B + 105) (iI (hrs : Int)) (iI (b : Int)) M1 = _
    unfold F_Mo_layCaught_L23 F_Mo_layCaught_b35
    obtain ⟨w, e5⟩ := e2 rec
    rw [hS.g105_3, obs, iL0, hS.r107 (by omega) (by omega), obs, tn0, hM1.2.1.nb, if_neg (cleF (by omega) (by omega) (by omega))]
    refine e5.trans ?_
    rw [hs2]
    show F_Mo_layCaught_L35 n E S rec _ (B + 105) (iI (hrs : Int)) (iI (b : Int)) (iI ((8 : Nat) : Int)) M2 = _
    unfold F_Mo_layCaught_L35
    rw [iL8, if_pos (cleT (by omega) (by omega) (by omega)), iL1, iI_add]
    rfl) n 0 (B + 105, iI (hrs : Int), 0, M0) (by omega) (by omega) ⟨M0, rfl, fun q hq => by rw [if_neg (by omega)]; exact h0 q hq, hP0⟩
  have hM1 := MNp hM hP1
  refine ⟨M1, ?_, fun b f hb hf => by rw [h1 (8 * b + f) (by omega), if_pos (by omega), show (8 * b + f) / 8 = b by omega, show (8 * b + f) % 8 = f by omega], hP1⟩
  refine e0.trans ?_
  rw [hs0]
  show F_Mo_layCaught_L2 n E S _ (B + 105) (iI (hrs : Int)) (iI ((24 : Nat) : Int)) M0 = _
  unfold F_Mo_layCaught_L2 F_Mo_layCaught_b23
  rw [iL24, if_pos (cleT (by omega) (by omega) (by omega))]
  refine e1.trans ?_
  rw [hs1]
  show F_Mo_layCaught_L23 n E S _ (B + 105) (iI (hrs : Int)) (iI ((N 11 0).toNat : Int)) M1 = _
  unfold F_Mo_layCaught_L23
  rw [hS.g105_3, obs, iL0, hS.r107 (by omega) (by omega), obs, tn0, hM1.2.1.nb, if_pos (cleT (by omega) (by omega) (by omega))]
end
