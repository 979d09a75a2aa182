/-! WHAT THE MODEL'S NIGHT RUNS (2) -/
section
variable {n : Nat} {E : zE} {S : zS} {M : zH} {B : Nat} {N : Nt} {Ls : Nat → Lw}
theorem tlN_3 (hC : MN M B N Ls) {w : Nat → Int} (hw : ∀ i, i < 19 → zB (w i)) {v : Int} (h : tlN N Ls 3 w = some v) : v = 1 := by
  obtain ⟨h20, hR, hN, hL⟩ := hC
  have hfo := hN.fo
  have hnl := hN.nl
  unfold tlN at h
  split at h
  · cases h
  obtain ⟨nc, ncd, hd, sg, mo, ma, g1, g2, g3, g4, g5, g6, g7, g8⟩ := hL (N 14 0).toNat (by omega) (by omega)
  unfold lwT at h
  rw [g6] at h
  generalize Ls (N 14 0).toNat = L at *
  have key : ∀ c, c ≤ nc → ltell L.2.1 L.2.2 3 w c = some v → v = 1 := by
    intro c
    induction c with
    | zero => intro _ h; cases h
    | succ c ih =>
      intro hc h
      unfold ltell at h
      have g := g8 c (by omega) w (fun i hi => hw i (by omega))
      split at h
      · rename_i hk
        split at h
        · rename_i u hu
          cases h
          rw [hu] at g
          exact cvM_3 (by rw [← g7 c (by omega)]; exact hk) g
        · exact ih (by omega) h
      · exact ih (by omega) h
  exact key nc (Nat.le_refl _) h
theorem s_mbarred (hS : ShOK S B) (hC : MN M B N Ls) (hn : 600 ≤ n) {b f : Int} (hb0 : 0 ≤ b) (hb : b < 3) (hf0 : 0 ≤ f) (hf : f < 8) :
    ∃ M', F_Mo_isBarred n E S (B + 105) (iI b) (iI f) M = some (decide (barV N Ls b f = 1), M') ∧ zAg (mScr B) M M' :=
  s_mbar hS hC hn hb0 hb hf0 hf (fun v h => tlN_3 hC (wBkt_b hC.2.2.1 hb0 hb hf0 hf) h)
theorem MN.scr (hC : MN M B N Ls) {M' : zH} (hA : zAg (mScr B) M M') : MN M' B N Ls := hC.ag hA (fun j q => by unfold mScr at q; omega) (fun q => by unfold mScr at q; omega)
theorem abv_b (hN : NdOK N) {r f : Int} (hr0 : 0 ≤ r) (hr : r < 4) (hf0 : 0 ≤ f) (hf : f < 8) : abvV N Ls r f = if N 1 (8 * r.toNat + ((f - N 2 r.toNat) % 8).toNat) = 1 then 0 else runsF N Ls r ((f - N 2 r.toNat) % 8) f := by
  have ht := hN.turn (k := r.toNat) (by omega)
  have hk := hN.blk (k := 8 * r.toNat + ((f - N 2 r.toNat) % 8).toNat) (by omega)
  unfold abvV
  rw [runsV_F, show (r * 8 + (f - N 2 r.toNat) % 8).toNat = 8 * r.toNat + ((f - N 2 r.toNat) % 8).toNat by omega, show ((f - N 2 r.toNat) % 8 + N 2 r.toNat) % 8 = f by omega]
  by_cases c : N 1 (8 * r.toNat + ((f - N 2 r.toNat) % 8).toNat) = 1
  · rw [if_pos c, if_neg (by omega)]
  · rw [if_neg c, if_pos (by omega)]
theorem s_mflow (hS : ShOK S B) (hC : MN M B N Ls) (hn : 600 ≤ n) {f : Int} (hf0 : 0 ≤ f) (hf : f < 8) :
    ∃ M', F_Mo_flowOn n E S (B + 105) (iI f) M = some (iI (flowV N Ls f), M') ∧ zAg (mScr B) M M' := by
  have hN := hC.2.2.1
  unfold F_Mo_flowOn F_Mo_flowOn_b4
  obtain ⟨s', m, ⟨M1, hs', hA1⟩, e⟩ := zfix_inv (F := fun r4 s => F_Mo_flowOn_L4 n E S r4 s.1 s.2.1 s.2.2.1 s.2.2.2.1 s.2.2.2.2) (fun i s => ∃ M1, s = (B + 105, iI f, iI (zsum (fun r => abvV N Ls r f) i), iI (i : Int), M1) ∧ zAg (mScr B) M M1) 4 (fun i hi s hI' => by
    obtain ⟨M1, rfl, hA1⟩ := hI'
    have hC1 := hC.scr hA1
    have ht := hN.turn (k := i) hi
    obtain ⟨M2, e, hA2⟩ := s_mruns (n := n) (E := E) (r := (i : Int)) (h := (f - N 2 i) % 8) hS hC1 hn (by omega) (by omega) (by omega) (by omega) hf0 hf
    have ea := abv_b (Ls := Ls) hN (r := (i : Int)) (by omega) (by omega) hf0 hf
    rw [Int.toNat_natCast] at ea
    by_cases c : N 1 (8 * i + ((f - N 2 i) % 8).toNat) = 1
    · refine ⟨(B + 105, iI f, iI (zsum (fun r => abvV N Ls r f) (i + 1)), iI ((i + 1 : Nat) : Int), M1), ⟨M1, rfl, hA1⟩, fun rec => ?_⟩
      show F_Mo_flowOn_L4 n E S rec (B + 105) (iI f) (iI (zsum _ i)) (iI i) M1 = _
      unfold F_Mo_flowOn_L4 F_Mo_flowOn_b56
      simp (disch := omega) only [iL4, xle, if_neg, hS.g105_3, Option.bind_some, iL8, iL44, iI_add, hS.r107, hC1.2.1.turn, hC1.2.1.blk, Int.toNat_natCast, s_mholeAbove, s_is hN, c, decide_true, if_true, iL0, iL1]
      rw [zsum_s, ea, if_pos c]
      rfl
    · refine ⟨(B + 105, iI f, iI (zsum (fun r => abvV N Ls r f) (i + 1)), iI ((i + 1 : Nat) : Int), M2), ⟨M2, rfl, hA1.trans hA2⟩, fun rec => ?_⟩
      show F_Mo_flowOn_L4 n E S rec (B + 105) (iI f) (iI (zsum _ i)) (iI i) M1 = _
      unfold F_Mo_flowOn_L4 F_Mo_flowOn_b56
      simp (disch := omega) only [iL4, xle, if_neg, hS.g105_3, Option.bind_some, iL8, iL44, iI_add, hS.r107, hC1.2.1.turn, hC1.2.1.blk, Int.toNat_natCast, s_mholeAbove, s_is hN, c, decide_false, Bool.false_eq_true, if_false, iL0, iL1, e]
      rw [zsum_s, ea, if_neg c]
      rfl) n 0 (B + 105, iI f, 0, 0, M) (by omega) (by omega) ⟨M, rfl, zAg.rfl'⟩
  rw [e, hs']
  refine ⟨M1, ?_, hA1⟩
  show F_Mo_flowOn_L4 n E S _ (B + 105) (iI f) (iI (zsum _ 4)) (iI (4 : Nat)) M1 = _
  unfold F_Mo_flowOn_L4
  rw [if_pos (by decide)]
  rfl
/-- with the flows laid -/
def fScr (B : Nat) : Nat → Nat → Prop := fun b j => mScr B b j ∨ b = B + 126
theorem MN.fscr (hC : MN M B N Ls) {M' : zH} (hA : zAg (fScr B) M M') : MN M' B N Ls := hC.ag hA (fun j q => by unfold fScr mScr at q; omega) (fun q => by unfold fScr mScr at q; omega)
theorem m_f {M' : zH} (hA : zAg (mScr B) M M') : zAg (fScr B) M M' := hA.mono (fun b j h => Or.inl h)
theorem s_layFlow (hS : ShOK S B) (hC : MN M B N Ls) (hn : 600 ≤ n) :
    ∃ M', F_Mo_layFlow n E S (B + 105) M = some M' ∧ zAg (fScr B) M M' ∧ ∀ f : Nat, f < 8 → mI M' (B + 126) f = iI (flowV N Ls f) := by
  unfold F_Mo_layFlow F_Mo_layFlow_b2
  obtain ⟨s', m, ⟨M1, hs', hA1, h1⟩, e⟩ := zfix_inv (F := fun r2 s => F_Mo_layFlow_L2 n E S r2 s.1 s.2.1 s.2.2) (fun i s => ∃ M1, s = (B + 105, iI (i : Int), M1) ∧ zAg (fScr B) M M1 ∧ ∀ f : Nat, f < i → mI M1 (B + 126) f = iI (flowV N Ls f)) 8 (fun i hi s hI' => by
    obtain ⟨M1, rfl, hA1, h1⟩ := hI'
    have hC1 := hC.fscr hA1
    obtain ⟨M2, e, hA2⟩ := s_mflow (n := n) (E := E) (f := (i : Int)) hS hC1 hn (by omega) (by omega)
    refine ⟨(B + 105, iI ((i + 1 : Nat) : Int), setI M2 (B + 126) i (iI (flowV N Ls i))), ⟨_, rfl, (hA1.trans (m_f hA2)).setI (Or.inr rfl), fun f hf => ?_⟩, fun rec => ?_⟩
    · by_cases c : f = i
      · subst c; exact mI_s
      · rw [mI_i c, (hA2 _ _ (fun z => by unfold mScr at z; omega)).1]
        exact h1 f (by omega)
    · show F_Mo_layFlow_L2 n E S rec (B + 105) (iI i) M1 = _
      unfold F_Mo_layFlow_L2
      simp (disch := omega) only [iL8, xle, if_neg, hS.g105_41, Option.bind_some, e, hS.w126, Int.toNat_natCast, iL1, iI_add]
      rfl) n 0 (B + 105, 0, M) (by omega) (by omega) ⟨M, rfl, zAg.rfl', fun f hf => by omega⟩
  rw [e, hs']
  refine ⟨M1, ?_, hA1, h1⟩
  show F_Mo_layFlow_L2 n E S _ (B + 105) (iI (8 : Nat)) M1 = _
  unfold F_Mo_layFlow_L2
  rw [if_pos (by decide)]
/-- the hour goes on -/
def tuX (B : Nat) : Nat → Nat → Prop := fun b j => b = B + 107 ∧ (j = 4 ∨ (8 ≤ j ∧ j < 12))
theorem nturn_1 : nset (nset (nset (nset (nset N 2 0 ((N 2 0 + 1) % 8)) 2 1 ((N 2 1 + 2) % 8)) 2 2 ((N 2 2 + 3) % 8)) 2 3 ((N 2 3 + 4) % 8)) 9 0 (N 9 0 + 1) = nturn N 1 := by
  funext c k
  unfold nset nturn
  by_cases h : c = 2 ∧ k < 4
  · obtain ⟨rfl, h⟩ := h
    rcases (show k = 0 ∨ k = 1 ∨ k = 2 ∨ k = 3 by omega) with rfl | rfl | rfl | rfl <;> simp
  · rw [if_neg h]
    by_cases h9 : c = 9 ∧ k = 0
    · rw [if_pos h9]
      obtain ⟨rfl, rfl⟩ := h9
      simp
    · rw [if_neg h9, if_neg h9, if_neg (by omega), if_neg (by omega), if_neg (by omega), if_neg (by omega)]
theorem s_mturnAll (hS : ShOK S B) (hR : RwN (mI M (B + 107)) N) (hN : NdOK N) (hn : 600 ≤ n) :
    ∃ M', F_Mo_turnAll n E S (B + 105) M = some M' ∧ RwN (mI M' (B + 107)) (nturn N 1) ∧ zAg (tuX B) M M' := by
  have t0 := hN.turn (k := 0) (by decide)
  have t1 := hN.turn (k := 1) (by decide)
  have t2 := hN.turn (k := 2) (by decide)
  have t3 := hN.turn (k := 3) (by decide)
  have hh := hN.hour
  have R1 := hR.s_turn (k := 0) (by decide) ((N 2 0 + 1) % 8)
  have R2 := R1.s_turn (k := 1) (by decide) ((N 2 1 + 2) % 8)
  have R3 := R2.s_turn (k := 2) (by decide) ((N 2 2 + 3) % 8)
  have R4 := R3.s_turn (k := 3) (by decide) ((N 2 3 + 4) % 8)
  have R5 := R4.s_term (k := 0) (by decide) (N 9 0 + 1)
  rw [nturn_1] at R5
  refine ⟨_, ?_, R5, ?_⟩
  · unfold F_Mo_turnAll F_Mo_turnAll_b2
    obtain ⟨m, rfl⟩ : ∃ m, n = m + 6 := ⟨n - 6, by omega⟩
    have g0 : mI M (B + 107) 8 = iI (N 2 0) := (hR.2.1 0 (by decide)).2.1
    have g1 : mI M (B + 107) 9 = iI (N 2 1) := (hR.2.1 1 (by decide)).2.1
    have g2 : mI M (B + 107) 10 = iI (N 2 2) := (hR.2.1 2 (by decide)).2.1
    have g3 : mI M (B + 107) 11 = iI (N 2 3) := (hR.2.1 3 (by decide)).2.1
    have g4 : mI M (B + 107) 4 = iI (N 9 0) := (hR.2.1 0 (by decide)).1
    have e0 : ∀ x y : Int, 0 ≤ x → x < 100 → zremI (iI x) (iI 8) = some (iI (x % 8)) := fun x y h1 h2 => by
      rw [iI_remI (zR_of (by omega) (by omega)) (by omega) (by omega), Int.tmod_eq_emod_of_nonneg h1]
    have i0 : ∀ (M1 : zH), zldI S M1 (B + 107) (iI (8 + 0)) = some (mI M1 (B + 107) 8) := fun M1 => hS.r107 (by decide) (by decide)
    have i1 : ∀ (M1 : zH), zldI S M1 (B + 107) (iI (8 + (0 + 1))) = some (mI M1 (B + 107) 9) := fun M1 => hS.r107 (by decide) (by decide)
    have i2 : ∀ (M1 : zH), zldI S M1 (B + 107) (iI (8 + (0 + 1 + 1))) = some (mI M1 (B + 107) 10) := fun M1 => hS.r107 (by decide) (by decide)
    have i3 : ∀ (M1 : zH), zldI S M1 (B + 107) (iI (8 + (0 + 1 + 1 + 1))) = some (mI M1 (B + 107) 11) := fun M1 => hS.r107 (by decide) (by decide)
    have i4 : ∀ (M1 : zH), zldI S M1 (B + 107) (iI 4) = some (mI M1 (B + 107) 4) := fun M1 => hS.r107 (by decide) (by decide)
    have j0 : ∀ (M1 : zH) (v : Int32), zstI S M1 (B + 107) (iI (8 + 0)) v = some (setI M1 (B + 107) (8 + 0) v) := fun M1 v => hS.w107 (by decide) (by decide)
    have j1 : ∀ (M1 : zH) (v : Int32), zstI S M1 (B + 107) (iI (8 + (0 + 1))) v = some (setI M1 (B + 107) (8 + 1) v) := fun M1 v => hS.w107 (by decide) (by decide)
    have j2 : ∀ (M1 : zH) (v : Int32), zstI S M1 (B + 107) (iI (8 + (0 + 1 + 1))) v = some (setI M1 (B + 107) (8 + 2) v) := fun M1 v => hS.w107 (by decide) (by decide)
    have j3 : ∀ (M1 : zH) (v : Int32), zstI S M1 (B + 107) (iI (8 + (0 + 1 + 1 + 1))) v = some (setI M1 (B + 107) (8 + 3) v) := fun M1 v => hS.w107 (by decide) (by decide)
    have j4 : ∀ (M1 : zH) (v : Int32), zstI S M1 (B + 107) (iI 4) v = some (setI M1 (B + 107) (4 + 0) v) := fun M1 v => hS.w107 (by decide) (by decide)
    simp (disch := omega) only [zfix_s, F_Mo_turnAll_L2, iL4, iL8, iL1, iL0, xle, if_neg, if_pos, hS.g105_3, Option.bind_some, iI_add, i0, i1, i2, i3, i4, j0, j1, j2, j3, j4, mI_i, g0, g1, g2, g3, g4, e0 _ 0]
    rw [show N 2 0 + 0 + 1 = N 2 0 + 1 by omega, show N 2 1 + (0 + 1) + 1 = N 2 1 + 2 by omega, show N 2 2 + (0 + 1 + 1) + 1 = N 2 2 + 3 by omega, show N 2 3 + (0 + 1 + 1 + 1) + 1 = N 2 3 + 4 by omega]
  · refine ((((zAg.rfl'.setI ?_).setI ?_).setI ?_).setI ?_).setI ?_ <;> (refine ⟨rfl, ?_⟩; omega)
theorem NdOK.turn1 (hN : NdOK N) (hh : N 9 0 < 2000) : NdOK (nturn N 1) := by
  obtain ⟨a0, a1, a2, a3, a4, a5, a6, a7, a8, a9, a10, a11, a12, a13⟩ := hN
  refine ⟨a0, a1, fun k hk => ?_, a3, a4, a5, a6, a7, a8, ?_, a10, a11, a12, a13⟩
  · unfold nturn
    rw [if_pos ⟨rfl, hk⟩]
    constructor <;> omega
  · show 0 ≤ N 9 0 + 1 ∧ N 9 0 + 1 ≤ 2000
    omega
end
