/-! WHAT A NIGHT RUNS, by the law in force -/
theorem tn0 : Int.toNat 0 = 0 := rfl
theorem tn1 : Int.toNat 1 = 1 := rfl
theorem tn2 : Int.toNat 2 = 2 := rfl
theorem tn3 : Int.toNat 3 = 3 := rfl
theorem tn4 : Int.toNat 4 = 4 := rfl
theorem tn5 : Int.toNat 5 = 5 := rfl
theorem tn6 : Int.toNat 6 = 6 := rfl
theorem tn7 : Int.toNat 7 = 7 := rfl
theorem tn8 : Int.toNat 8 = 8 := rfl
theorem tn9 : Int.toNat 9 = 9 := rfl
theorem tn10 : Int.toNat 10 = 10 := rfl
theorem tn11 : Int.toNat 11 = 11 := rfl
theorem tn12 : Int.toNat 12 = 12 := rfl
theorem tn13 : Int.toNat 13 = 13 := rfl
theorem tn14 : Int.toNat 14 = 14 := rfl
theorem tn15 : Int.toNat 15 = 15 := rfl
theorem tn16 : Int.toNat 16 = 16 := rfl
theorem tn17 : Int.toNat 17 = 17 := rfl
theorem tn18 : Int.toNat 18 = 18 := rfl
theorem tn19 : Int.toNat 19 = 19 := rfl
theorem tn20 : Int.toNat 20 = 20 := rfl
/-- the words that a law sees of a hole -/
def wRun (N : Nt) (r h : Int) : Nat → Int := fun i => match i with
  | 0 => r
  | 1 => h
  | 2 => N 0 (r * 8 + h).toNat
  | 3 => (h + N 2 r.toNat) % 8
  | 4 => -1
  | 5 => -1
  | 6 => N 9 0
  | 7 => N 9 1
  | 8 => N 9 2
  | _ => 0
/-- of a bucket at a field -/
def wBkt (N : Nt) (b f : Int) : Nat → Int := fun i => match i with
  | 0 => -1
  | 1 => -1
  | 2 => -1
  | 3 => f
  | 4 => b
  | 5 => N 4 b.toNat
  | 6 => N 9 0
  | 7 => N 9 1
  | 8 => N 9 2
  | _ => 0
/-- what the law in force tells -/
def tlN (N : Nt) (Ls : Nat → Lw) (kind : Int) (w : Nat → Int) : Option Int := if N 14 0 < 0 then none else lwT (Ls (N 14 0).toNat) kind w
def runsV (N : Nt) (Ls : Nat → Lw) (r h : Int) : Int := tvC (N 0 (r * 8 + h).toNat * N 9 1) 99 (tlN N Ls 0 (wRun N r h))
def leakV (N : Nt) (Ls : Nat → Lw) (b : Int) : Int := tvC 0 9 (tlN N Ls 1 (wBkt N b (N 5 b.toNat)))
def payV (N : Nt) (Ls : Nat → Lw) (b f : Int) : Int := tvC 1 99 (tlN N Ls 2 (wBkt N b f))
def barV (N : Nt) (Ls : Nat → Lw) (b f : Int) : Int := tvC 0 99 (tlN N Ls 3 (wBkt N b f))
/-- what runs above a field by a ring -/
def abvV (N : Nt) (Ls : Nat → Lw) (r f : Int) : Int := if N 1 (r * 8 + (f - N 2 r.toNat) % 8).toNat = 0 then runsV N Ls r ((f - N 2 r.toNat) % 8) else 0
def flowV (N : Nt) (Ls : Nat → Lw) (f : Int) : Int := zsum (fun r => abvV N Ls r f) 4
theorem tvC_b {plain most : Int} {r : Option Int} (h0 : 0 ≤ plain) (h1 : plain ≤ most) : 0 ≤ tvC plain most r ∧ tvC plain most r ≤ most := by
  unfold tvC clp
  cases r with
  | none => exact ⟨h0, h1⟩
  | some v => simp only; omega
theorem runsV_b {N : Nt} {Ls : Nat → Lw} {r h : Int} (hN : NdOK N) (hr0 : 0 ≤ r) (hr : r < 4) (hh0 : 0 ≤ h) (hh : h < 8) : 0 ≤ runsV N Ls r h ∧ runsV N Ls r h ≤ 99 := by
  have hb := hN.bore (k := (r * 8 + h).toNat) (by omega)
  have hw := hN.wet
  have h1 : 0 ≤ N 0 (r * 8 + h).toNat * N 9 1 := Int.mul_nonneg hb.1 hw.1
  have h2 : N 0 (r * 8 + h).toNat * N 9 1 ≤ 9 * 9 := Int.mul_le_mul hb.2 hw.2 hw.1 (by decide)
  exact tvC_b h1 (by omega)
theorem abvV_b {N : Nt} {Ls : Nat → Lw} {r f : Int} (hN : NdOK N) (hr0 : 0 ≤ r) (hr : r < 4) : 0 ≤ abvV N Ls r f ∧ abvV N Ls r f ≤ 99 := by
  unfold abvV
  split
  · exact runsV_b hN hr0 hr (by omega) (by omega)
  · omega
theorem flowV_b {N : Nt} {Ls : Nat → Lw} {f : Int} (hN : NdOK N) : 0 ≤ flowV N Ls f ∧ flowV N Ls f ≤ 396 := by
  have := zsum_le (f := fun r => abvV N Ls r f) (c := 99) 4 (fun i hi => abvV_b hN (by omega) (by omega))
  unfold flowV
  omega
/-- the laws of the class's night at a -/
def LwC (S : zS) (M : zH) (B a : Nat) (N : Nt) (Ls : Nat → Lw) : Prop := ∀ j, j < 6 → (∀ t, mR M (a + 11) j = some t → sK S t = 9 ∧ t + 6 ≤ sZ S) ∧ ((j : Int) < N 13 0 → ∃ t, B + 136 ≤ t ∧ mR M (a + 11) j = some t ∧ TxR S M t (Ls j))
/-- a night of the class -/
def CN (S : zS) (M : zH) (B a : Nat) (N : Nt) (Ls : Nat → Lw) : Prop := NiR M a N ∧ NdOK N ∧ LwC S M B a N Ls
section
variable {n : Nat} {E : zE} {S : zS} {M : zH} {B a : Nat} {N : Nt} {Ls : Nat → Lw}
theorem CN.ag {X : Nat → Nat → Prop} {M' : zH} (h : CN S M B a N Ls) (hA : zAg X M M') (hx : ∀ b j, X b j → b < B + 136 ∧ ¬ (a ≤ b ∧ b < a + 12)) : CN S M' B a N Ls := by
  refine ⟨h.1.ag hA (fun b j h1 h2 h3 => (hx b j h3).2 ⟨h1, h2⟩), h.2.1, fun j hj => ?_⟩
  have e : mR M' (a + 11) j = mR M (a + 11) j := (hA _ _ (fun h3 => (hx _ _ h3).2 ⟨by omega, by omega⟩)).2.2
  rw [e]
  refine ⟨(h.2.2 j hj).1, fun hl => ?_⟩
  obtain ⟨t, h1, h2, h3⟩ := (h.2.2 j hj).2 hl
  exact ⟨t, h1, h2, h3.ag hA (fun b j h4 h5 h6 => by have := (hx _ _ h6).1; omega)⟩
theorem nightAt.scr (ha : nightAt B a) : ∀ b j, cScr B b j → b < B + 136 ∧ ¬ (a ≤ b ∧ b < a + 12) := by
  intro b j h
  unfold nightAt at ha
  rcases h with h | h <;> omega
theorem CN.scr (h : CN S M B a N Ls) (ha : nightAt B a) {M' : zH} (hA : zAg (cScr B) M M') : CN S M' B a N Ls := h.ag hA ha.scr
/-- told, with the words of the night laid -/
theorem s_told {t : Nat} {L : Lw} {kind plain most : Int} {w : Nat → Int} (hS : ShOK S B) (ha : nightAt B a) (hC : NiR M a N) (hN : NdOK N) (ht : B + 136 ≤ t) (hT : TxR S M t L) (hk0 : 0 ≤ kind) (hk1 : kind ≤ 3) (hm0 : 1 ≤ most) (hm1 : most ≤ 99) (hn : 600 ≤ n) (hw : ∀ i, i < 6 → mI M (B + 79) i = iI (w i)) (h6 : w 6 = N 9 0) (h7 : w 7 = N 9 1) (h8 : w 8 = N 9 2) (hwb : ∀ i, i < 9 → zB (w i)) :
    ∃ M', F_Ju_told n E S (B + 76) a t (iI kind) (iI plain) (iI most) M = some (iI (tvC plain most (lwT L kind w)), M') ∧ zAg (cScr B) M M' := by
  have hI := ha.ni hS
  have hx := ha.scr
  have hxa : ∀ b j, a ≤ b → b < a + 12 → ¬ cScr B b j := fun b j h1 h2 h3 => (hx b j h3).2 ⟨h1, h2⟩
  have A0 : zAg (cScr B) M M := zAg.rfl'
  have A1 := A0.setI (a := B + 79) (i := 6) (v := iI (N 9 0)) (Or.inr rfl)
  have A2 := A1.setI (a := B + 79) (i := 7) (v := iI (N 9 1)) (Or.inr rfl)
  have A3 := A2.setI (a := B + 79) (i := 8) (v := iI (N 9 2)) (Or.inr rfl)
  unfold F_Ju_told
  simp (disch := omega) only [iL0, iL1, iL2, iL6, iL7, iL8, hS.g76_1, Option.bind_some, hI.g9, hI.r9 hC, hS.w79, hI.r9 (hC.ag A1 hxa), hI.r9 (hC.ag A2 hxa), tn0, tn1, tn2, tn6, tn7, tn8]
  have hW : WdR S (setI (setI (setI M (B + 79) 6 (iI (N 9 0))) (B + 79) 7 (iI (N 9 1))) (B + 79) 8 (iI (N 9 2))) (B + 79) 9 w := by
    refine ⟨hS.k 79 (by decide), hS.n 79 (by decide), by decide, fun i hi => ⟨?_, (hwb i hi).r⟩⟩
    rcases (show i < 6 ∨ i = 6 ∨ i = 7 ∨ i = 8 by omega) with q | rfl | rfl | rfl
    · rw [mI_i (by omega), mI_i (by omega), mI_i (by omega)]; exact hw i q
    · rw [mI_i (by omega), mI_i (by omega), mI_s, h6]
    · rw [mI_i (by omega), mI_s, h7]
    · rw [mI_s, h8]
  have hxt : ∀ b j, t ≤ b → b < t + 6 → ¬ cScr B b j := fun b j h1 h2 h3 => by rcases h3 with h3 | h3 <;> omega
  have hT' := hT.ag A3 hxt
  obtain ⟨len, st, nc, kd, tm, wm, mk, hX, e1, e2, e3⟩ := id hT'
  have hnc := hX.2.2.2.2.1
  rw [pz_gI hX.1.1, Option.bind_some, hX.2.2.2.1, iI_sub]
  unfold F_Ju_told_b47
  obtain ⟨M', e, hA⟩ := s_toldL (n := n) (E := E) (a := a) (plain := plain) hS ht hk0 hk1 hm0 hm1 hn nc n _ (by omega) (by omega) hT' hW hwb
  refine ⟨M', ?_, A3.trans hA⟩
  rw [e]
  unfold lwT
  rw [e1]
theorem s_runsOf (hS : ShOK S B) (ha : nightAt B a) (hC : CN S M B a N Ls) (hn : 600 ≤ n) {r h : Int} (hr0 : 0 ≤ r) (hr : r < 4) (hh0 : 0 ≤ h) (hh : h < 8) :
    ∃ M', F_Ju_runsOf n E S (B + 76) a (iI r) (iI h) M = some (iI (runsV N Ls r h), M') ∧ zAg (cScr B) M M' := by
  obtain ⟨hR, hN, hL⟩ := hC
  have hI := ha.ni hS
  have hx := ha.scr
  have hxa : ∀ b j, a ≤ b → b < a + 12 → ¬ cScr B b j := fun b j h1 h2 h3 => (hx b j h3).2 ⟨h1, h2⟩
  have hb := hN.bore (k := (r * 8 + h).toNat) (by omega)
  have hwet := hN.wet
  have hhour := hN.hour
  have hmood := hN.mood
  have hturn := hN.turn (k := r.toNat) (by omega)
  unfold F_Ju_runsOf
  simp (disch := omega) only [iL0, iL1, iL2, iL3, iL4, iL5, iL8, iI_mul, iI_add, hI.g0, hI.g9, Option.bind_some, hI.r0 hR, hI.r9 hR, s_lawInForce hI hR hN, tn1]
  unfold runsV tlN
  by_cases hf : N 14 0 < 0
  · simp only [if_pos hf]
    exact ⟨M, rfl, zAg.rfl'⟩
  · simp only [if_neg hf]
    have hfo := hN.fo
    have hnl := hN.nl
    obtain ⟨t, ht, e, hT⟩ := (hL (N 14 0).toNat (by omega)).2 (by omega)
    rw [e]
    simp only
    have A0 : zAg (cScr B) M M := zAg.rfl'
    have A1 := A0.setI (a := B + 79) (i := 0) (v := iI r) (Or.inr rfl)
    have A2 := A1.setI (a := B + 79) (i := 1) (v := iI h) (Or.inr rfl)
    have A3 := A2.setI (a := B + 79) (i := 2) (v := iI (N 0 (r * 8 + h).toNat)) (Or.inr rfl)
    have A4 := A3.setI (a := B + 79) (i := 3) (v := iI ((h + N 2 r.toNat) % 8)) (Or.inr rfl)
    have A5 := A4.setI (a := B + 79) (i := 4) (v := iI (-1)) (Or.inr rfl)
    have A6 := A5.setI (a := B + 79) (i := 5) (v := iI (-1)) (Or.inr rfl)
    simp (disch := omega) only [hS.g76_1, hS.w79, Option.bind_some, tn0, tn1, tn2, tn3, tn4, tn5, s_fieldBelow hI (hR.ag A3 hxa) hN, iI_neg]
    obtain ⟨M', e2, hA⟩ := s_told (n := n) (E := E) (kind := 0) (plain := N 0 (r * 8 + h).toNat * N 9 1) (most := 99) (w := wRun N r h) hS ha (hR.ag A6 hxa) hN ht (hT.ag A6 (fun b j h1 h2 h3 => by rcases h3 with h3 | h3 <;> omega)) (by omega) (by omega) (by omega) (by omega) hn (fun i hi => by
      rcases (show i = 0 ∨ i = 1 ∨ i = 2 ∨ i = 3 ∨ i = 4 ∨ i = 5 by omega) with rfl | rfl | rfl | rfl | rfl | rfl <;> simp [mI_ite, wRun]) rfl rfl rfl (fun i hi => by
      rcases (show i = 0 ∨ i = 1 ∨ i = 2 ∨ i = 3 ∨ i = 4 ∨ i = 5 ∨ i = 6 ∨ i = 7 ∨ i = 8 by omega) with rfl | rfl | rfl | rfl | rfl | rfl | rfl | rfl | rfl <;> (simp only [wRun]; constructor <;> omega))
    refine ⟨M', ?_, A6.trans hA⟩
    rw [show (99 : Int32) = iI 99 from rfl]
    rw [e2]
    rfl
theorem s_ask (hS : ShOK S B) (ha : nightAt B a) (hC : CN S M B a N Ls) (hn : 600 ≤ n) {b f kind : Int} (hb0 : 0 ≤ b) (hb : b < 3) (hf0 : 0 ≤ f) (hf : f < 8) (hk1 : 1 ≤ kind) (hk3 : kind ≤ 3) :
    ∃ M', F_Ju_askOfBucket n E S (B + 76) a (iI b) (iI f) (iI kind) M = some (iI (tvC (if kind = 2 then 1 else 0) (if kind = 1 then 9 else 99) (tlN N Ls kind (wBkt N b f))), M') ∧ zAg (cScr B) M M' := by
  obtain ⟨hR, hN, hL⟩ := hC
  have hI := ha.ni hS
  have hx := ha.scr
  have hxa : ∀ b j, a ≤ b → b < a + 12 → ¬ cScr B b j := fun b j h1 h2 h3 => (hx b j h3).2 ⟨h1, h2⟩
  have hlev := hN.lev (k := b.toNat) (by omega)
  have hsiz := hN.size (k := b.toNat) (by omega)
  have hwet := hN.wet
  have hhour := hN.hour
  have hmood := hN.mood
  have key : ∀ pl : Int, pl = 0 ∨ pl = 1 → ∃ M', F_Ju_askOfBucket_b11 n E S (B + 76) a (iI b) (iI f) (iI kind) (iI pl) M = some (iI (tvC pl (if kind = 1 then 9 else 99) (tlN N Ls kind (wBkt N b f))), M') ∧ zAg (cScr B) M M' := by
    intro pl hpl
    unfold F_Ju_askOfBucket_b11 tlN
    simp only [hI.ck, Option.bind_some, s_lawInForce hI hR hN]
    by_cases hfo : N 14 0 < 0
    · simp only [if_pos hfo]
      exact ⟨M, rfl, zAg.rfl'⟩
    · simp only [if_neg hfo]
      have hfo' := hN.fo
      have hnl := hN.nl
      obtain ⟨t, ht, e, hT⟩ := (hL (N 14 0).toNat (by omega)).2 (by omega)
      rw [e]
      simp only
      have A0 : zAg (cScr B) M M := zAg.rfl'
      have A1 := A0.setI (a := B + 79) (i := 0) (v := iI (-1)) (Or.inr rfl)
      have A2 := A1.setI (a := B + 79) (i := 1) (v := iI (-1)) (Or.inr rfl)
      have A3 := A2.setI (a := B + 79) (i := 2) (v := iI (-1)) (Or.inr rfl)
      have A4 := A3.setI (a := B + 79) (i := 3) (v := iI f) (Or.inr rfl)
      have A5 := A4.setI (a := B + 79) (i := 4) (v := iI b) (Or.inr rfl)
      have A6 := A5.setI (a := B + 79) (i := 5) (v := iI (N 4 b.toNat)) (Or.inr rfl)
      simp (disch := omega) only [iL0, iL1, iL2, iL3, iL4, iL5, hS.g76_1, hS.w79, Option.bind_some, tn0, tn1, tn2, tn3, tn4, tn5, iI_neg, hI.g4, hI.r4 (hR.ag A5 hxa), xeq (x := kind) (y := 1)]
      have kk : ∀ mo : Int, 1 ≤ mo → mo ≤ 99 → ∃ M', F_Ju_askOfBucket_b95 n E S (iI mo) (iI pl) (iI kind) (some t) a (B + 76) (setI (setI (setI (setI (setI (setI M (B + 79) 0 (iI (-1))) (B + 79) 1 (iI (-1))) (B + 79) 2 (iI (-1))) (B + 79) 3 (iI f)) (B + 79) 4 (iI b)) (B + 79) 5 (iI (N 4 b.toNat))) = some (iI (tvC pl mo (lwT (Ls (N 14 0).toNat) kind (wBkt N b f))), M') ∧ zAg (cScr B) M M' := by
        intro mo hm1 hm2
        obtain ⟨M', e2, hA⟩ := s_told (n := n) (E := E) (kind := kind) (plain := pl) (most := mo) (w := wBkt N b f) hS ha (hR.ag A6 hxa) hN ht (hT.ag A6 (fun b j h1 h2 h3 => by rcases h3 with h3 | h3 <;> omega)) (by omega) (by omega) hm1 hm2 hn (fun i hi => by
          rcases (show i = 0 ∨ i = 1 ∨ i = 2 ∨ i = 3 ∨ i = 4 ∨ i = 5 by omega) with rfl | rfl | rfl | rfl | rfl | rfl <;> simp [mI_ite, wBkt]) rfl rfl rfl (fun i hi => by
          rcases (show i = 0 ∨ i = 1 ∨ i = 2 ∨ i = 3 ∨ i = 4 ∨ i = 5 ∨ i = 6 ∨ i = 7 ∨ i = 8 by omega) with rfl | rfl | rfl | rfl | rfl | rfl | rfl | rfl | rfl <;> (simp only [wBkt]; constructor <;> omega))
        refine ⟨M', ?_, A6.trans hA⟩
        unfold F_Ju_askOfBucket_b95
        rw [Option.bind_some, hS.ck76, Option.bind_some, e2]
        rfl
      by_cases k1 : kind = 1
      · simp only [if_pos k1]
        exact kk 9 (by decide) (by decide)
      · simp only [if_neg k1]
        exact kk 99 (by decide) (by decide)
  unfold F_Ju_askOfBucket
  simp only [iL2, xeq (x := kind) (y := 2) (by omega) (by omega) (by omega) (by omega)]
  by_cases k2 : kind = 2
  · simp only [if_pos k2]
    exact key 1 (Or.inr rfl)
  · simp only [if_neg k2]
    exact key 0 (Or.inl rfl)
end
