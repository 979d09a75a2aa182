/-! WHAT A NIGHT RUNS (2) -/
theorem zsum_s (f : Nat → Int) (n : Nat) : zsum f (n + 1) = zsum f n + f n := rfl
section
variable {n : Nat} {E : zE} {S : zS} {M : zH} {B a : Nat} {N : Nt} {Ls : Nat → Lw}
theorem s_leakOf (hS : ShOK S B) (ha : nightAt B a) (hC : CN S M B a N Ls) (hn : 600 ≤ n) {b : Int} (hb0 : 0 ≤ b) (hb : b < 3) :
    ∃ M', F_Ju_leakOf n E S (B + 76) a (iI b) M = some (iI (leakV N Ls b), M') ∧ zAg (cScr B) M M' := by
  have hI := ha.ni hS
  have hf := hC.2.1.fie (k := b.toNat) (by omega)
  obtain ⟨M', e, hA⟩ := s_ask (n := n) (E := E) (kind := 1) (f := N 5 b.toNat) hS ha hC hn hb0 hb hf.1 hf.2 (by decide) (by decide)
  refine ⟨M', ?_, hA⟩
  unfold F_Ju_leakOf
  simp (disch := omega) only [hI.g5, hI.r5 hC.1, hS.ck76, Option.bind_some, iL1, e]
  rfl
theorem s_payOf (hS : ShOK S B) (ha : nightAt B a) (hC : CN S M B a N Ls) (hn : 600 ≤ n) {b f : Int} (hb0 : 0 ≤ b) (hb : b < 3) (hf0 : 0 ≤ f) (hf : f < 8) :
    ∃ M', F_Ju_payOf n E S (B + 76) a (iI b) (iI f) M = some (iI (payV N Ls b f), M') ∧ zAg (cScr B) M M' := by
  obtain ⟨M', e, hA⟩ := s_ask (n := n) (E := E) (kind := 2) (f := f) hS ha hC hn hb0 hb hf0 hf (by decide) (by decide)
  refine ⟨M', ?_, hA⟩
  unfold F_Ju_payOf
  simp (disch := omega) only [hS.ck76, Option.bind_some, iL2, e]
  rfl
theorem barV_b {b f : Int} : 0 ≤ barV N Ls b f ∧ barV N Ls b f ≤ 99 := tvC_b (by decide) (by decide)
theorem s_isBarred (hS : ShOK S B) (ha : nightAt B a) (hC : CN S M B a N Ls) (hn : 600 ≤ n) {b f : Int} (hb0 : 0 ≤ b) (hb : b < 3) (hf0 : 0 ≤ f) (hf : f < 8) :
    ∃ M', F_Ju_isBarred n E S (B + 76) a (iI b) (iI f) M = some (decide (barV N Ls b f = 1), M') ∧ zAg (cScr B) M M' := by
  obtain ⟨M', e, hA⟩ := s_ask (n := n) (E := E) (kind := 3) (f := f) hS ha hC hn hb0 hb hf0 hf (by decide) (by decide)
  refine ⟨M', ?_, hA⟩
  have hb := barV_b (N := N) (Ls := Ls) (b := b) (f := f)
  have e2 : iI (tvC (if (3 : Int) = 2 then 1 else 0) (if (3 : Int) = 1 then 9 else 99) (tlN N Ls 3 (wBkt N b f))) = iI (barV N Ls b f) := rfl
  rw [e2] at e
  unfold F_Ju_isBarred
  simp (disch := omega) only [hS.ck76, Option.bind_some, iL3, e, iL1, xeq (x := barV N Ls b f) (y := 1)]
  by_cases c : barV N Ls b f = 1
  · simp [c]
  · simp [c]
theorem s_runsAbove (hS : ShOK S B) (ha : nightAt B a) (hC : CN S M B a N Ls) (hn : 600 ≤ n) {r f : Int} (hr0 : 0 ≤ r) (hr : r < 4) (hf0 : 0 ≤ f) (hf : f < 8) :
    ∃ M', F_Ju_runsAbove n E S (B + 76) a (iI r) (iI f) M = some (iI (abvV N Ls r f), M') ∧ zAg (cScr B) M M' := by
  have hI := ha.ni hS
  have hk := hC.2.1.blk (k := (r * 8 + (f - N 2 r.toNat) % 8).toNat) (by omega)
  obtain ⟨M', e, hA⟩ := s_runsOf (n := n) (E := E) (h := (f - N 2 r.toNat) % 8) hS ha hC hn hr0 hr (by omega) (by omega)
  unfold F_Ju_runsAbove abvV
  simp (disch := omega) only [hI.ck, Option.bind_some, s_holeAbove hI hC.1 hC.2.1, hI.g1, iL8, iL0, iI_mul, iI_add, hI.r1 hC.1, xeq (x := N 1 (r * 8 + (f - N 2 r.toNat) % 8).toNat) (y := 0), hS.ck76, e]
  by_cases c : N 1 (r * 8 + (f - N 2 r.toNat) % 8).toNat = 0
  · simp only [if_pos c]
    exact ⟨M', rfl, hA⟩
  · simp only [if_neg c]
    exact ⟨M, rfl, zAg.rfl'⟩
theorem s_threadsOn (hS : ShOK S B) (ha : nightAt B a) (hC : CN S M B a N Ls) (hn : 600 ≤ n) {f : Int} (hf0 : 0 ≤ f) (hf : f < 8) :
    ∃ M', F_Ju_threadsOn n E S (B + 76) a (iI f) M = some (iI (flowV N Ls f), M') ∧ zAg (cScr B) M M' := by
  have hI := ha.ni hS
  unfold F_Ju_threadsOn F_Ju_threadsOn_b5
  obtain ⟨s', m, ⟨M1, hs', hA1⟩, e⟩ := zfix_inv (F := fun r5 s => F_Ju_threadsOn_L5 n E S r5 s.1 s.2.1 s.2.2.1 s.2.2.2.1 s.2.2.2.2.1 s.2.2.2.2.2) (fun i s => ∃ M1, s = (B + 76, a, iI f, iI (zsum (fun r => abvV N Ls r f) i), iI (i : Int), M1) ∧ zAg (cScr B) M M1) 4 (fun i hi s hI' => by
    obtain ⟨M1, rfl, hA1⟩ := hI'
    have hC1 := hC.scr ha hA1
    obtain ⟨M2, e, hA2⟩ := s_runsOf (n := n) (E := E) (r := (i : Int)) (h := (f - N 2 i) % 8) hS ha hC1 hn (by omega) (by omega) (by omega) (by omega)
    have hk := hC.2.1.blk (k := ((i : Int) * 8 + (f - N 2 i) % 8).toNat) (by omega)
    by_cases c : N 1 ((i : Int) * 8 + (f - N 2 i) % 8).toNat = 0
    · refine ⟨(B + 76, a, iI f, iI (zsum (fun r => abvV N Ls r f) (i + 1)), iI ((i + 1 : Nat) : Int), M2), ⟨M2, rfl, hA1.trans hA2⟩, fun rec => ?_⟩
      show F_Ju_threadsOn_L5 n E S rec (B + 76) a (iI f) (iI (zsum _ i)) (iI i) M1 = _
      unfold F_Ju_threadsOn_L5 F_Ju_threadsOn_b50
      simp (disch := omega) only [iL4, xle, if_neg, hI.ck, Option.bind_some, s_holeAbove hI hC1.1 hC1.2.1, hI.g1, iL8, iL0, iI_mul, iI_add, hI.r1 hC1.1, Int.toNat_natCast, xeq (x := N 1 ((i : Int) * 8 + (f - N 2 i) % 8).toNat) (y := 0), hS.ck76, e, if_true, c, iL1]
      have ea : abvV N Ls (i : Int) f = runsV N Ls i ((f - N 2 i) % 8) := by unfold abvV; rw [Int.toNat_natCast, if_pos c]
      rw [zsum_s, ea]
      rfl
    · refine ⟨(B + 76, a, iI f, iI (zsum (fun r => abvV N Ls r f) (i + 1)), iI ((i + 1 : Nat) : Int), M1), ⟨M1, rfl, hA1⟩, fun rec => ?_⟩
      show F_Ju_threadsOn_L5 n E S rec (B + 76) a (iI f) (iI (zsum _ i)) (iI i) M1 = _
      unfold F_Ju_threadsOn_L5 F_Ju_threadsOn_b50
      simp (disch := omega) only [iL4, xle, if_neg, hI.ck, Option.bind_some, s_holeAbove hI hC1.1 hC1.2.1, hI.g1, iL8, iL0, iI_mul, iI_add, hI.r1 hC1.1, Int.toNat_natCast, xeq (x := N 1 ((i : Int) * 8 + (f - N 2 i) % 8).toNat) (y := 0), hS.ck76, e, c, if_false, iL1]
      have ea : abvV N Ls (i : Int) f = 0 := by unfold abvV; rw [Int.toNat_natCast, if_neg c]
      rw [zsum_s, ea]
      rfl) n 0 (B + 76, a, iI f, 0, 0, M) (by omega) (by omega) ⟨M, rfl, zAg.rfl'⟩
  rw [e, hs']
  refine ⟨M1, ?_, hA1⟩
  show F_Ju_threadsOn_L5 n E S _ (B + 76) a (iI f) (iI (zsum _ 4)) (iI (4 : Nat)) M1 = _
  unfold F_Ju_threadsOn_L5
  rw [if_pos (by decide)]
  rfl
end
