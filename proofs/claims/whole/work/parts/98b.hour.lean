/-! AN HOUR PASSES -/
def pMore (N : Nt) (Ls : Nat → Lw) (b : Nat) : Int := min (N 3 b - N 4 b) (flowV N Ls (N 5 b))
def pN1 (N : Nt) (Ls : Nat → Lw) (b : Nat) : Nt := nset N 4 b (N 4 b + pMore N Ls b)
def pStep (N : Nt) (Ls : Nat → Lw) (b : Nat) : Nt := nset (pN1 N Ls b) 4 b (max 0 (N 4 b + pMore N Ls b - leakV (pN1 N Ls b) Ls b))
def pIt (N : Nt) (Ls : Nat → Lw) : Nat → Nt × Int
  | 0 => (N, 0)
  | i + 1 => (pStep (pIt N Ls i).1 Ls i, (pIt N Ls i).2 + pMore (pIt N Ls i).1 Ls i)
def pasN (N : Nt) (Ls : Nat → Lw) : Nt := nturn (pIt N Ls (N 11 0).toNat).1 1
def pasV (N : Nt) (Ls : Nat → Lw) : Int := (pIt N Ls (N 11 0).toNat).2
theorem flowV_cg {N N' : Nt} {Ls : Nat → Lw} (h0 : N' 0 = N 0) (h1 : N' 1 = N 1) (h2 : N' 2 = N 2) (h9 : N' 9 = N 9) (h14 : N' 14 = N 14) (f : Int) : flowV N' Ls f = flowV N Ls f := by
  have hw : ∀ r h, wRun N' r h = wRun N r h := fun r h => by
    funext i
    match i with
    | 0 => rfl
    | 1 => rfl
    | 2 => show N' 0 _ = N 0 _; rw [h0]
    | 3 => show (h + N' 2 _) % 8 = (h + N 2 _) % 8; rw [h2]
    | 4 => rfl
    | 5 => rfl
    | 6 => show N' 9 0 = N 9 0; rw [h9]
    | 7 => show N' 9 1 = N 9 1; rw [h9]
    | 8 => show N' 9 2 = N 9 2; rw [h9]
    | n + 9 => rfl
  have ha : ∀ r, abvV N' Ls r f = abvV N Ls r f := fun r => by
    unfold abvV runsV tlN
    rw [hw, h0, h1, h2, h9, h14]
  unfold flowV
  congr 1
  funext r
  exact ha r
theorem pIt_c {N : Nt} {Ls : Nat → Lw} : ∀ i c k, c ≠ 4 → (pIt N Ls i).1 c k = N c k := by
  intro i
  induction i with
  | zero => intro c k _; rfl
  | succ i ih =>
    intro c k hc
    show nset (nset (pIt N Ls i).1 4 i _) 4 i _ c k = _
    rw [nset_c hc, nset_c hc]
    exact ih c k hc
theorem pIt_4 {N : Nt} {Ls : Nat → Lw} : ∀ i k, i ≤ k → (pIt N Ls i).1 4 k = N 4 k := by
  intro i
  induction i with
  | zero => intro k _; rfl
  | succ i ih =>
    intro k hk
    show nset (nset (pIt N Ls i).1 4 i _) 4 i _ 4 k = _
    rw [nset_k (by omega), nset_k (by omega)]
    exact ih k (by omega)
theorem pIt_f {N : Nt} {Ls : Nat → Lw} (i : Nat) (f : Int) : flowV (pIt N Ls i).1 Ls f = flowV N Ls f :=
  flowV_cg (funext fun k => pIt_c i 0 k (by decide)) (funext fun k => pIt_c i 1 k (by decide)) (funext fun k => pIt_c i 2 k (by decide)) (funext fun k => pIt_c i 9 k (by decide)) (funext fun k => pIt_c i 14 k (by decide)) f
theorem leakV_b {N : Nt} {Ls : Nat → Lw} {b : Int} : 0 ≤ leakV N Ls b ∧ leakV N Ls b ≤ 9 := tvC_b (by decide) (by decide)
theorem pMore_b {N : Nt} {Ls : Nat → Lw} {b : Nat} (hN : NdOK N) (hb : b < 3) : 0 ≤ pMore N Ls b ∧ pMore N Ls b ≤ 99 ∧ N 4 b + pMore N Ls b ≤ N 3 b := by
  have h1 := hN.lev hb
  have h2 := hN.size hb
  have h3 := flowV_b (Ls := Ls) (f := N 5 b) hN
  unfold pMore
  omega
theorem pStep_ok {N : Nt} {Ls : Nat → Lw} {b : Nat} (hN : NdOK N) (hb : b < 3) : NdOK (pN1 N Ls b) ∧ NdOK (pStep N Ls b) := by
  have h1 := hN.lev hb
  have h4 := pMore_b (Ls := Ls) hN hb
  have h5 := leakV_b (N := pN1 N Ls b) (Ls := Ls) (b := (b : Int))
  have g1 : NdOK (pN1 N Ls b) := hN.s4 (by omega) (by omega)
  refine ⟨g1, g1.s4 (by omega) ?_⟩
  show _ ≤ N 3 b
  omega
theorem pIt_ok {N : Nt} {Ls : Nat → Lw} (hN : NdOK N) : ∀ i, i ≤ 3 → NdOK (pIt N Ls i).1 ∧ 0 ≤ (pIt N Ls i).2 ∧ (pIt N Ls i).2 ≤ 99 * i := by
  intro i
  induction i with
  | zero => intro _; exact ⟨hN, Int.le_refl 0, Int.le_refl 0⟩
  | succ i ih =>
    intro hi
    obtain ⟨g1, g2, g3⟩ := ih (by omega)
    have h4 := pMore_b (Ls := Ls) g1 (b := i) (by omega)
    refine ⟨(pStep_ok g1 (by omega)).2, ?_, ?_⟩
    · show 0 ≤ (pIt N Ls i).2 + pMore (pIt N Ls i).1 Ls i
      omega
    · show (pIt N Ls i).2 + pMore (pIt N Ls i).1 Ls i ≤ 99 * ((i + 1 : Nat) : Int)
      omega
theorem pasV_b {N : Nt} {Ls : Nat → Lw} (hN : NdOK N) : 0 ≤ pasV N Ls ∧ pasV N Ls ≤ 297 := by
  have hb := hN.nb
  have := pIt_ok (Ls := Ls) hN (N 11 0).toNat (by omega)
  unfold pasV
  omega
theorem pasN_ok {N : Nt} {Ls : Nat → Lw} (hN : NdOK N) (hh : N 9 0 < 2000) : NdOK (pasN N Ls) := by
  have hb := hN.nb
  refine (pIt_ok (Ls := Ls) hN (N 11 0).toNat (by omega)).1.turn1 ?_
  rw [pIt_c _ _ _ (by decide)]
  exact hh
/-- what an hour changes in a night at a -/
def hoX (B a : Nat) : Nat → Nat → Prop := fun b j => cScr B b j ∨ b = a + 5 ∨ b = a + 3 ∨ b = a + 10
section
variable {n : Nat} {E : zE} {S : zS} {M : zH} {B a : Nat} {N : Nt} {Ls : Nat → Lw}
theorem nightAt.lt (ha : nightAt B a) : a + 12 ≤ B + 98 := by unfold nightAt at ha; omega
/-- an element of a component that isn't a law's is set -/
theorem CN.set {M' : zH} (hC : CN S M B a N Ls) (ha : nightAt B a) {c k : Nat} {v : Int} (hc : c < 10) (hM' : M' = setI M (a + 1 + c) k (iI v)) (hN : NdOK (nset N c k v)) : CN S M' B a (nset N c k v) Ls := by
  subst hM'
  have hl := ha.lt
  refine hC.upd (X := fun b j => b = a + 1 + c) (zAg.rfl'.setI rfl) (fun b j q => by omega) (fun j => rfl) (hC.1.set c hc k v) hN ?_
  exact nset_c (by omega)
theorem s_hour (hS : ShOK S B) (ha : nightAt B a) (hC : CN S M B a N Ls) (hn : 600 ≤ n) (hh : N 9 0 < 2000) :
    ∃ M', F_De_letHourPass n E S (B + 80) a M = some (iI (pasV N Ls), M') ∧ CN S M' B a (pasN N Ls) Ls ∧ zAg (hoX B a) M M' := by
  have hI := ha.ni hS
  have hN := hC.2.1
  have hb := hN.nb
  unfold F_De_letHourPass F_De_letHourPass_b4
  obtain ⟨s', m, ⟨M1, hs', hC1, hA1⟩, e⟩ := zfix_inv (F := fun r4 s => F_De_letHourPass_L4 n E S r4 s.1 s.2.1 s.2.2.1 s.2.2.2.1 s.2.2.2.2) (fun i s => ∃ M1, s = (B + 80, a, iI (pIt N Ls i).2, iI (i : Int), M1) ∧ CN S M1 B a (pIt N Ls i).1 Ls ∧ zAg (hoX B a) M M1) (N 11 0).toNat (fun i hi s hI' => by
    obtain ⟨M1, rfl, hC1, hA1⟩ := hI'
    have hN1 := hC1.2.1
    have e11 : (pIt N Ls i).1 11 0 = N 11 0 := pIt_c i 11 0 (by decide)
    have h2 := (pIt_ok (Ls := Ls) hN i (by omega)).2
    have ess : pIt N Ls (i + 1) = (pStep (pIt N Ls i).1 Ls i, (pIt N Ls i).2 + pMore (pIt N Ls i).1 Ls i) := rfl
    rw [ess]
    generalize pIt N Ls i = PP at *
    obtain ⟨Q, v⟩ := PP
    dsimp only at *
    have hf := hN1.fie (k := i) (by omega)
    have hl := hN1.lev (k := i) (by omega)
    have hz := hN1.size (k := i) (by omega)
    have hm := pMore_b (Ls := Ls) hN1 (b := i) (by omega)
    have hfl := flowV_b (Ls := Ls) (f := Q 5 i) hN1
    obtain ⟨k1, k2⟩ := pStep_ok (Ls := Ls) hN1 (b := i) (by omega)
    obtain ⟨M2, e2, hA2⟩ := s_threadsOn (n := n) (E := E) (f := Q 5 i) hS ha hC1 hn hf.1 hf.2
    have hC2 := hC1.scr ha hA2
    have hC3 : CN S (setI M2 (a + 1 + 4) i (iI (Q 4 i + pMore Q Ls i))) B a (pN1 Q Ls i) Ls := hC2.set ha (by decide) rfl k1
    obtain ⟨M4, e4, hA4⟩ := s_leakOf (n := n) (E := E) (b := (i : Int)) hS ha hC3 hn (by omega) (by omega)
    have hC4 := hC3.scr ha hA4
    have hC5 : CN S (setI M4 (a + 1 + 4) i (iI (max 0 (Q 4 i + pMore Q Ls i - leakV (pN1 Q Ls i) Ls i)))) B a (pStep Q Ls i) Ls := hC4.set ha (by decide) rfl k2
    have hlk := leakV_b (N := pN1 Q Ls i) (Ls := Ls) (b := (i : Int))
    refine ⟨(B + 80, a, iI (v + pMore Q Ls i), iI ((i + 1 : Nat) : Int), _), ⟨_, rfl, hC5, ?_⟩, fun rec => ?_⟩
    · refine (((hA1.trans (hA2.mono (fun b j q => Or.inl q))).setI ?_).trans (hA4.mono (fun b j q => Or.inl q))).setI ?_ <;> (right; left; rfl)
    · show F_De_letHourPass_L4 n E S rec (B + 80) a (iI v) (iI i) M1 = _
      unfold F_De_letHourPass_L4
      have e3n : pN1 Q Ls i 4 i = Q 4 i + pMore Q Ls i := nset_s
      rw [hI.i11 hC1.1, obs, e11, if_neg (by rw [xle (by omega) (by omega) (by omega) (by omega)]; omega), hI.g3, obs, hI.r3 hC1.1 (by omega) (by omega), obs, hI.g4, obs, hI.r4 hC1.1 (by omega) (by omega), obs, hS.g80_0, obs, hI.g5, obs, hI.r5 hC1.1 (by omega) (by omega), obs, hS.ck76, obs, Int.toNat_natCast, e2, obs, iI_sub, s_minI (zR_of (by omega) (by omega)) (zR_of (by omega) (by omega)), obs, hI.r4 hC2.1 (by omega) (by omega), obs, Int.toNat_natCast, iI_add]
      have em : min (Q 3 i - Q 4 i) (flowV Q Ls (Q 5 i)) = pMore Q Ls i := rfl
      rw [em, hI.w4 (by omega) (by omega), obs, Int.toNat_natCast, hI.r4 hC3.1 (by omega) (by omega), obs, Int.toNat_natCast, e3n, e4, obs, iI_sub, iL0, s_maxI (zR_of (by omega) (by omega)) (zR_of (by omega) (by omega)), obs, hI.w4 (by omega) (by omega), obs, iI_add, iL1, iI_add]
      rfl) n 0 (B + 80, a, 0, 0, M) (by omega) (by omega) ⟨M, rfl, hC, zAg.rfl'⟩
  rw [e, hs']
  have e11 : (pIt N Ls (N 11 0).toNat).1 11 0 = N 11 0 := pIt_c _ 11 0 (by decide)
  have e9 : (pIt N Ls (N 11 0).toNat).1 9 0 = N 9 0 := pIt_c _ 9 0 (by decide)
  obtain ⟨M2, e2, hR2, hA2⟩ := s_turnAll (n := n) (E := E) (d := 1) hI hC1.1 hC1.2.1 (by omega) (Or.inl rfl)
  have hl := ha.lt
  refine ⟨M2, ?_, hC1.upd hA2 (fun b j q => by omega) (fun j => (hA2 _ _ (fun q => by omega)).2.2) hR2 (pasN_ok hN hh) rfl, hA1.trans (hA2.mono (fun b j q => by unfold hoX; omega))⟩
  show F_De_letHourPass_L4 n E S _ (B + 80) a (iI (pIt N Ls (N 11 0).toNat).2) (iI ((N 11 0).toNat : Int)) M1 = _
  unfold F_De_letHourPass_L4
  rw [hI.i11 hC1.1, obs, e11, if_pos (by rw [xle (by omega) (by omega) (by omega) (by omega)]; omega), show (1 : Int32) = iI 1 from rfl, e2, obs]
  rfl
end
