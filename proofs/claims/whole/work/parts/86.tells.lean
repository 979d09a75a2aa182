/-! WHAT THE MODEL'S LAWS TELL -/
/-- what the model's telling changes -/
def mScr (B : Nat) : Nat → Nat → Prop := fun b j => b = B + 123 ∨ b = B + 125 ∨ (b = B + 105 ∧ (j = 34 ∨ j = 38 ∨ j = 39 ∨ j = 40))
/-- within a telling: words and law stand -/
def tScr (B : Nat) : Nat → Nat → Prop := fun b j => b = B + 125 ∨ (b = B + 105 ∧ (j = 38 ∨ j = 39 ∨ j = 40))
/-- words and law are laid -/
def SetR (M : zH) (B j : Nat) (w : Nat → Int) : Prop := mI M (B + 105) 34 = iI (((80 + 900 * j : Nat)) : Int) ∧ ∀ i, i < 9 → mJ M (B + 123) (i + 1) = jJ (w i)
section
variable {n : Nat} {E : zE} {S : zS} {M : zH} {B : Nat} {N : Nt} {Ls : Nat → Lw}
theorem SetR.ag {M' : zH} {j : Nat} {w : Nat → Int} (h : SetR M B j w) (hA : zAg (tScr B) M M') : SetR M' B j w :=
  ⟨by rw [(hA _ _ (fun q => by unfold tScr at q; omega)).1]; exact h.1, fun i hi => by rw [(hA _ _ (fun q => by unfold tScr at q; omega)).2.1]; exact h.2 i hi⟩
theorem rk_t {M' : zH} (hA : zAg (rkX B) M M') : zAg (tScr B) M M' := hA.mono (fun b j h => by unfold rkX at h; unfold tScr; omega)
theorem t_m {M' : zH} (hA : zAg (tScr B) M M') : zAg (mScr B) M M' := hA.mono (fun b j h => by unfold tScr at h; unfold mScr; omega)
theorem mkMc {j ncd last : Nat} {mo ma w : Nat → Int} (hj : j < 6) (h20 : mI M (B + 105) 20 = 0) (hs : SetR M B j w) (hw : ∀ i, i < 19 → zB (w i)) (hncd : ncd ≤ 400) (hc : ∀ k, k < ncd → mI M (B + 107) (80 + 900 * j + 98 + 2 * k) = iI (mo k) ∧ mI M (B + 107) (80 + 900 * j + 98 + 2 * k + 1) = iI (ma k) ∧ 0 ≤ mo k ∧ mo k ≤ 30 ∧ 0 ≤ ma k ∧ ma k ≤ 1000) (hl : last ≤ ncd) : McR M B false mo ma w last :=
  ⟨h20, by omega, fun _ => ⟨80 + 900 * j, hs.1, by omega, fun k hk => ⟨(hc k (by omega)).1, (hc k (by omega)).2.1⟩, fun i hi => ⟨hs.2 i hi, hw i (by omega)⟩⟩, (fun h => absurd h (by decide)), fun k hk => ⟨(hc k (by omega)).2.2.1, (hc k (by omega)).2.2.2.1, (hc k (by omega)).2.2.2.2.1, (hc k (by omega)).2.2.2.2.2⟩⟩
theorem s_isSo (hS : ShOK S B) {j c nc ncd : Nat} {hd mo ma w : Nat → Int} {sg : Nat → Nat → Nat} (hj : j < 6) (h20 : mI M (B + 105) 20 = 0) (hs : SetR M B j w) (hw : ∀ i, i < 19 → zB (w i)) (hncd : ncd ≤ 400) (hnc : nc ≤ 12) (hcn : c < nc)
    (hh : ∀ c, c < nc → mI M (B + 107) (80 + 900 * j + 2 + 8 * c) = iI (hd c) ∧ 0 ≤ hd c ∧ hd c ≤ 3 ∧ ∀ p, 3 ≤ p → p < 7 → mI M (B + 107) (80 + 900 * j + 2 + 8 * c + p) = iI (sg c p : Int) ∧ sg c p ≤ ncd)
    (hc : ∀ k, k < ncd → mI M (B + 107) (80 + 900 * j + 98 + 2 * k) = iI (mo k) ∧ mI M (B + 107) (80 + 900 * j + 98 + 2 * k + 1) = iI (ma k) ∧ 0 ≤ mo k ∧ mo k ≤ 30 ∧ 0 ≤ ma k ∧ ma k ≤ 1000)
    (hn : 600 ≤ n) {r : Option Int} (hr : cvM mo ma hd sg c w = some r) :
    ∃ M', F_Mo_isSo n E S (B + 105) (iI (((80 + 900 * j + 2 + 8 * c : Nat)) : Int)) M = some (decide (r ≠ none), M') ∧ zAg (tScr B) M M' ∧ (hd c ≠ 3 → ∀ v, r = some v → mJ M' (B + 105) 40 = jJ v) := by
  obtain ⟨hd1, hd2, hd3, hsg⟩ := hh c hcn
  obtain ⟨e3, l3⟩ := hsg 3 (by decide) (by decide)
  obtain ⟨e4, l4⟩ := hsg 4 (by decide) (by decide)
  obtain ⟨e5, l5⟩ := hsg 5 (by decide) (by decide)
  obtain ⟨e6, l6⟩ := hsg 6 (by decide) (by decide)
  generalize hP : 80 + 900 * j + 2 + 8 * c = P at *
  have hP5 : P + 10 ≤ 5480 := by omega
  have rd : ∀ (M1 : zH) (p : Nat), p < 8 → zldI S M1 (B + 107) (iI ((P : Int) + (p : Int))) = some (mI M1 (B + 107) (P + p)) := by
    intro M1 p hp
    rw [hS.r107 (by omega) (by omega), show ((P : Int) + (p : Int)).toNat = P + p by omega]
  have rd5 : ∀ M1 : zH, zldI S M1 (B + 107) (iI ((P : Int) + 5)) = some (mI M1 (B + 107) (P + 5)) := fun M1 => rd M1 5 (by decide)
  have rd6 : ∀ M1 : zH, zldI S M1 (B + 107) (iI ((P : Int) + 6)) = some (mI M1 (B + 107) (P + 6)) := fun M1 => rd M1 6 (by decide)
  have rd3 : ∀ M1 : zH, zldI S M1 (B + 107) (iI ((P : Int) + 3)) = some (mI M1 (B + 107) (P + 3)) := fun M1 => rd M1 3 (by decide)
  have rd4 : ∀ M1 : zH, zldI S M1 (B + 107) (iI ((P : Int) + 4)) = some (mI M1 (B + 107) (P + 4)) := fun M1 => rd M1 4 (by decide)
  have rd0 : ∀ M1, zldI S M1 (B + 107) (iI (P : Int)) = some (mI M1 (B + 107) P) := fun M1 => by rw [hS.r107 (by omega) (by omega), Int.toNat_natCast]
  -- behind the test
  have hbeh : ∀ (M1 : zH), zAg (tScr B) M M1 → (if hd c = 3 then some (some 1) else rM false mo ma w (sg c 4) 500 (sg c 3) []) = some r → ∃ M', F_Mo_isSo_b59 n E S (B + 105) (iI (P : Int)) M1 = some (decide (r ≠ none), M') ∧ zAg (tScr B) M M' ∧ (hd c ≠ 3 → ∀ v, r = some v → mJ M' (B + 105) 40 = jJ v) := by
    intro M1 hA hr
    have q : ∀ i, mI M1 (B + 107) i = mI M (B + 107) i := fun i => (hA _ _ (fun z => by unfold tScr at z; omega)).1
    unfold F_Mo_isSo_b59
    rw [hS.g105_3, Option.bind_some, rd0, Option.bind_some, q, hd1]
    simp only [iL3, xeq (x := hd c) (y := 3) (by omega) (by omega) (by omega) (by omega)]
    by_cases c3 : hd c = 3
    · rw [if_pos c3] at hr ⊢
      cases hr
      exact ⟨M1, rfl, hA, fun h => absurd c3 h⟩
    · rw [if_neg c3] at hr ⊢
      have hMc : McR M1 B false mo ma w (sg c 4) := by
        refine mkMc hj ?_ (hs.ag hA) hw hncd (fun k hk => ?_) l4
        · rw [(hA _ _ (fun z => by unfold tScr at z; omega)).1]; exact h20
        · rw [q, q]; exact hc k hk
      obtain ⟨M2, e, hA2, h38, h39⟩ := s_reckonAll (n := n) (E := E) hS hMc (show sg c 3 ≤ 400 by omega) hn hr
      simp only [iL4, iI_add]
      rw [rd3 M1, Option.bind_some, rd4 M1, Option.bind_some, q, q, e3, e4, e, Option.bind_some, hS.ij105, Option.bind_some, hS.pj105, Option.bind_some, hS.i105, Option.bind_some, mI_setJ, h38]
      have hA3 : zAg (tScr B) M (setJ M2 (B + 105) 40 (mJ M2 (B + 105) 39)) := (hA.trans (rk_t hA2)).setJ (Or.inr ⟨rfl, Or.inr (Or.inr rfl)⟩)
      cases r with
      | none =>
        rw [if_pos rfl, if_neg (by decide)]
        exact ⟨_, rfl, hA3, fun _ v h => by cases h⟩
      | some v =>
        rw [if_neg (show ¬ (some v = none) by simp), if_pos (by decide)]
        refine ⟨_, rfl, hA3, fun _ u h => ?_⟩
        cases h
        rw [mJ_ite, if_pos ⟨rfl, rfl⟩, h39 v rfl]
  unfold F_Mo_isSo
  unfold cvM at hr
  rw [hS.g105_3, Option.bind_some, show iI (P : Int) + (5 : Int32) = iI ((P : Int) + 5) by rw [iL5, iI_add], show iI (P : Int) + (6 : Int32) = iI ((P : Int) + 6) by rw [iL6, iI_add], rd5, Option.bind_some, rd6, Option.bind_some, e5, e6, Option.bind_some, Option.bind_some]
  simp only [xle (x := (sg c 6 : Int)) (y := (sg c 5 : Int)) (by omega) (by omega) (by omega) (by omega)]
  by_cases ct : sg c 5 < sg c 6
  · rw [if_pos ct] at hr
    rw [if_neg (show ¬ (sg c 6 : Int) ≤ (sg c 5 : Int) by omega)]
    cases ht : rM false mo ma w (sg c 6) 500 (sg c 5) [] with
    | none => rw [ht] at hr; cases hr
    | some rt =>
      have hMc : McR M B false mo ma w (sg c 6) := mkMc hj h20 hs hw hncd hc l6
      obtain ⟨M2, e, hA2, h38, h39⟩ := s_reckonAll (n := n) (E := E) hS hMc (show sg c 5 ≤ 400 by omega) hn ht
      have hb := rM_zB (last := sg c 6) (mo := mo) (ma := ma) (ord := false) hw 500 (sg c 5) [] (by simp)
      rw [e, Option.bind_some, hS.i105, Option.bind_some, h38]
      rw [ht] at hr
      cases rt with
      | none =>
        rw [if_pos rfl, if_neg (by decide)]
        cases hr
        exact ⟨M2, rfl, rk_t hA2, fun _ v h => by cases h⟩
      | some v =>
        have hv := hb v ht
        have hv1 := hv.1
        have hv2 := hv.2
        rw [if_neg (show ¬ (some v = none) by simp), if_pos (by decide), hS.ij105, Option.bind_some, h39 v rfl]
        simp only [jL0, yeq (x := v) (y := 0) (by omega) (by omega) (by omega) (by omega)]
        simp only at hr
        by_cases z : v = 0
        · rw [if_pos z] at hr ⊢
          cases hr
          exact ⟨M2, rfl, rk_t hA2, fun _ v h => by cases h⟩
        · rw [if_neg z] at hr ⊢
          exact hbeh M2 (rk_t hA2) hr
  · rw [if_neg ct] at hr
    rw [if_pos (show (sg c 6 : Int) ≤ (sg c 5 : Int) by omega)]
    simp only at hr
    rw [if_neg (by decide)] at hr
    exact hbeh M zAg.rfl' hr
/-- the words of a hole with a field told apart -/
def wRn (N : Nt) (r h f : Int) : Nat → Int := fun i => match i with
  | 0 => r
  | 1 => h
  | 2 => N 0 (r * 8 + h).toNat
  | 3 => f
  | 4 => -1
  | 5 => -1
  | 6 => N 9 0
  | 7 => N 9 1
  | 8 => N 9 2
  | _ => 0
theorem wRun_n (N : Nt) (r h : Int) : wRun N r h = wRn N r h ((h + N 2 r.toNat) % 8) := by
  funext i
  match i with
  | 0 => rfl
  | 1 => rfl
  | 2 => rfl
  | 3 => rfl
  | 4 => rfl
  | 5 => rfl
  | 6 => rfl
  | 7 => rfl
  | 8 => rfl
  | _ + 9 => rfl
def runsF (N : Nt) (Ls : Nat → Lw) (r h f : Int) : Int := tvC (N 0 (r * 8 + h).toNat * N 9 1) 99 (tlN N Ls 0 (wRn N r h f))
theorem runsV_F (N : Nt) (Ls : Nat → Lw) (r h : Int) : runsV N Ls r h = runsF N Ls r h ((h + N 2 r.toNat) % 8) := by unfold runsV runsF; rw [wRun_n]
def lor (o : Option Int) (d : Int) : Int := match o with
  | some v => v
  | none => d
theorem cvM_3 {mo ma hd : Nat → Int} {sg : Nat → Nat → Nat} {c : Nat} {w : Nat → Int} {v : Int} (h3 : hd c = 3) (h : cvM mo ma hd sg c w = some (some v)) : v = 1 := by
  unfold cvM at h
  split at h
  · cases h
  · cases h
  · split at h
    · cases h
    · cases h; rfl
theorem tells_L (hS : ShOK S B) {j nc ncd : Nat} {hd mo ma w : Nat → Int} {sg : Nat → Nat → Nat} {L : Lw} {kind plain : Int} (hj : j < 6) (hk0 : 0 ≤ kind) (hk3 : kind ≤ 3) (hw : ∀ i, i < 19 → zB (w i)) (hncd : ncd ≤ 400) (hnc : nc ≤ 12) (hn : 600 ≤ n) (hL2 : ∀ c, c < nc → L.2.1 c = hd c) (hL3 : ∀ c, c < nc → ∀ w : Nat → Int, (∀ i, i < 9 → zB (w i)) → cvM mo ma hd sg c w = some (L.2.2 c w)) :
    ∀ (d kk c : Nat) (M : zH), nc - c = d → c ≤ nc → d < kk → mI M (B + 105) 20 = 0 → SetR M B j w → mI M (B + 107) (80 + 900 * j + 1) = iI (nc : Int) →
    (∀ c, c < nc → mI M (B + 107) (80 + 900 * j + 2 + 8 * c) = iI (hd c) ∧ 0 ≤ hd c ∧ hd c ≤ 3 ∧ ∀ p, 3 ≤ p → p < 7 → mI M (B + 107) (80 + 900 * j + 2 + 8 * c + p) = iI (sg c p : Int) ∧ sg c p ≤ ncd) →
    (∀ k, k < ncd → mI M (B + 107) (80 + 900 * j + 98 + 2 * k) = iI (mo k) ∧ mI M (B + 107) (80 + 900 * j + 98 + 2 * k + 1) = iI (ma k) ∧ 0 ≤ mo k ∧ mo k ≤ 30 ∧ 0 ≤ ma k ∧ ma k ≤ 1000) →
    ∃ M', zfix (fun r86 s => F_Mo_tells_L86 n E S r86 s.1 s.2.1 s.2.2.1 s.2.2.2.1 s.2.2.2.2) kk (B + 105, iI kind, jJ (lor (ltell L.2.1 L.2.2 kind w c) plain), iI (c : Int), M) = some (jJ (lor (ltell L.2.1 L.2.2 kind w nc) plain), M') ∧ zAg (tScr B) M M' := by
  intro d
  induction d with
  | zero =>
    intro kk c M hd' hc hkk h20 hs h1 hh hcd
    obtain ⟨kk, rfl⟩ : ∃ j, kk = j + 1 := ⟨kk - 1, by omega⟩
    have hcn : c = nc := by omega
    subst hcn
    rw [zfix_s]
    refine ⟨M, ?_, zAg.rfl'⟩
    show F_Mo_tells_L86 n E S _ (B + 105) (iI kind) (jJ _) (iI (c : Int)) M = _
    unfold F_Mo_tells_L86
    rw [hS.g105_3, Option.bind_some, hS.i105, Option.bind_some, hs.1, iL1, iI_add, hS.r107 (by omega) (by omega), Option.bind_some, show (((80 + 900 * j : Nat) : Int) + 1).toNat = 80 + 900 * j + 1 by omega, h1]
    rw [if_pos (by rw [xle (by omega) (by omega) (by omega) (by omega)]; omega)]
  | succ d ih =>
    intro kk c M hd' hc hkk h20 hs h1 hh hcd
    obtain ⟨kk, rfl⟩ : ∃ j, kk = j + 1 := ⟨kk - 1, by omega⟩
    rw [zfix_s]
    have ihk := fun M => ih kk (c + 1) M (by omega) (by omega) (by omega)
    generalize zfix (fun r86 s => F_Mo_tells_L86 n E S r86 s.1 s.2.1 s.2.2.1 s.2.2.2.1 s.2.2.2.2) kk = rec at ihk ⊢
    have hgo : ∀ M1, zAg (tScr B) M M1 → ∃ M', rec (B + 105, iI kind, jJ (lor (ltell L.2.1 L.2.2 kind w (c + 1)) plain), iI (c : Int) + 1, M1) = some (jJ (lor (ltell L.2.1 L.2.2 kind w nc) plain), M') ∧ zAg (tScr B) M M' := by
      intro M1 hA
      have q : ∀ i, mI M1 (B + 107) i = mI M (B + 107) i := fun i => (hA _ _ (fun z => by unfold tScr at z; omega)).1
      obtain ⟨M', e, hA'⟩ := ihk M1 (by rw [(hA _ _ (fun z => by unfold tScr at z; omega)).1]; exact h20) (hs.ag hA) (by rw [q]; exact h1) (fun c hc => by
        rw [q]
        refine ⟨(hh c hc).1, (hh c hc).2.1, (hh c hc).2.2.1, fun p hp hp2 => ?_⟩
        rw [q]; exact (hh c hc).2.2.2 p hp hp2) (fun k hk => by rw [q, q]; exact hcd k hk)
      refine ⟨M', ?_, hA.trans hA'⟩
      rw [← e, iL1, iI_add]
      rfl
    have hcn : c < nc := by omega
    obtain ⟨hd1, hd2, hd3, _⟩ := hh c hcn
    have hcv := hL3 c hcn w (fun i hi => hw i (by omega))
    obtain ⟨M1, e, hA1, h40⟩ := s_isSo (n := n) (E := E) hS hj h20 hs hw hncd hnc hcn hh hcd hn hcv
    show ∃ M', F_Mo_tells_L86 n E S rec (B + 105) (iI kind) (jJ _) (iI (c : Int)) M = _ ∧ _
    unfold F_Mo_tells_L86
    rw [hS.g105_3, Option.bind_some, hS.i105, Option.bind_some, hs.1, iL1, iI_add, hS.r107 (by omega) (by omega), Option.bind_some, show (((80 + 900 * j : Nat) : Int) + 1).toNat = 80 + 900 * j + 1 by omega, h1]
    rw [if_neg (by rw [xle (by omega) (by omega) (by omega) (by omega)]; omega), Option.bind_some, iL2, iL8, iI_mul, iI_add, iI_add, hS.r107 (by omega) (by omega), Option.bind_some, show (((80 + 900 * j : Nat) : Int) + 2 + 8 * (c : Int)).toNat = 80 + 900 * j + 2 + 8 * c by omega, hd1, show (((80 + 900 * j : Nat) : Int) + 2 + 8 * (c : Int)) = ((80 + 900 * j + 2 + 8 * c : Nat) : Int) by omega, e]
    simp only [xeq (x := hd c) (y := kind) (by omega) (by omega) (by omega) (by omega), iL3, xeq (x := kind) (y := 3) (by omega) (by omega) (by omega) (by omega)]
    have hstep : ltell L.2.1 L.2.2 kind w (c + 1) = if hd c = kind then (match L.2.2 c w with
      | some v => some v
      | none => ltell L.2.1 L.2.2 kind w c) else ltell L.2.1 L.2.2 kind w c := by rw [← hL2 c hcn]; rfl
    rw [hstep] at hgo
    unfold F_Mo_tells_b149 F_Mo_tells_b151
    by_cases ck : hd c = kind
    · rw [if_pos ck] at hgo ⊢
      rw [Option.bind_some]
      cases hcvv : L.2.2 c w with
      | none =>
        rw [hcvv] at hgo
        rw [if_neg (by simp)]
        exact hgo M1 hA1
      | some v =>
        rw [hcvv] at hgo h40 hcv
        rw [if_pos (by simp)]
        by_cases c3 : kind = 3
        · rw [if_pos c3]
          have := cvM_3 (by omega) hcv
          subst this
          exact hgo M1 hA1
        · rw [if_neg c3, hS.ij105, Option.bind_some, h40 (by omega) v rfl]
          exact hgo M1 hA1
    · rw [if_neg ck] at hgo ⊢
      exact hgo M zAg.rfl'
theorem s_tells (hS : ShOK S B) (hC : MN M B N Ls) {kind plain f : Int} {w : Nat → Int} (hk0 : 0 ≤ kind) (hk3 : kind ≤ 3) (hn : 600 ≤ n) (hw : ∀ i, i < 19 → zB (w i)) (hws : ∀ i, i < 9 → i ≠ 3 → i < 6 → mJ M (B + 123) (i + 1) = jJ (w i)) (h3 : w 3 = f) (h6 : w 6 = N 9 0) (h7 : w 7 = N 9 1) (h8 : w 8 = N 9 2) :
    ∃ M', F_Mo_tells n E S (B + 105) (iI kind) (iI f) (jJ plain) M = some (jJ (lor (tlN N Ls kind w) plain), M') ∧ zAg (mScr B) M M' := by
  obtain ⟨h20, hR, hN, hL⟩ := hC
  have hfo := hN.fo
  have hnl := hN.nl
  have hho := hN.hour
  have hwe := hN.wet
  have hmo := hN.mood
  have hf3 := hw 3 (by decide)
  rw [h3] at hf3
  have hf31 := hf3.1
  have hf32 := hf3.2
  unfold F_Mo_tells tlN
  simp only [hS.g105_3, Option.bind_some, iL3, hS.r107 (show (0 : Int) ≤ 3 by decide) (show (3 : Int) < 5480 by decide), tn3, hR.fo, iLm1, xeq (x := N 14 0) (y := -1) (by omega) (by omega) (by omega) (by omega)]
  by_cases c : N 14 0 = -1
  · rw [if_pos c, if_pos (show N 14 0 < 0 by omega)]
    exact ⟨M, rfl, zAg.rfl'⟩
  · rw [if_neg c, if_neg (show ¬ N 14 0 < 0 by omega)]
    obtain ⟨nc, ncd, hd, sg, mo, ma, g1, g2, g3, g4, g5, g6, g7, g8⟩ := hL (N 14 0).toNat (by omega) (by omega)
    have A0 : zAg (mScr B) M M := zAg.rfl'
    have A1 := A0.setI (a := B + 105) (i := 34) (v := iI (80 + 900 * N 14 0)) (Or.inr (Or.inr ⟨rfl, Or.inl rfl⟩))
    have A2 := A1.setJ (a := B + 123) (i := 4) (v := jJ f) (Or.inl rfl)
    have A3 := A2.setJ (a := B + 123) (i := 7) (v := jJ (N 9 0)) (Or.inl rfl)
    have A4 := A3.setJ (a := B + 123) (i := 8) (v := jJ (N 9 1)) (Or.inl rfl)
    have A5 := A4.setJ (a := B + 123) (i := 9) (v := jJ (N 9 2)) (Or.inl rfl)
    have q : ∀ M1, zAg (mScr B) M M1 → ∀ i, mI M1 (B + 107) i = mI M (B + 107) i := fun M1 hA i => (hA _ _ (fun z => by unfold mScr at z; omega)).1
    simp (disch := omega) only [iL80, iL900, iI_mul, iI_add, hS.p105, Option.bind_some, hS.g105_35, xJ, iL4, iL5, iL6, iL7, iL8, iL9, hS.w123, hS.r107, tn4, tn5, tn6, tn7, tn8, tn9, q _ A2, q _ A3, q _ A4, hR.hour, hR.wet, hR.mood]
    have hs5 : SetR (setJ (setJ (setJ (setJ (setI M (B + 105) 34 (iI (80 + 900 * N 14 0))) (B + 123) 4 (jJ f)) (B + 123) 7 (jJ (N 9 0))) (B + 123) 8 (jJ (N 9 1))) (B + 123) 9 (jJ (N 9 2))) B (N 14 0).toNat w := by
      refine ⟨?_, fun i hi => ?_⟩
      · rw [mI_setJ, mI_setJ, mI_setJ, mI_setJ, mI_s]
        congr 1
        omega
      · rcases (show i = 0 ∨ i = 1 ∨ i = 2 ∨ i = 3 ∨ i = 4 ∨ i = 5 ∨ i = 6 ∨ i = 7 ∨ i = 8 by omega) with rfl | rfl | rfl | rfl | rfl | rfl | rfl | rfl | rfl <;> simp [mJ_ite, mJ_setI, h3, h6, h7, h8]
        · exact hws 0 (by decide) (by decide) (by decide)
        · exact hws 1 (by decide) (by decide) (by decide)
        · exact hws 2 (by decide) (by decide) (by decide)
        · exact hws 4 (by decide) (by decide) (by decide)
        · exact hws 5 (by decide) (by decide) (by decide)
    unfold F_Mo_tells_b86
    obtain ⟨M', e, hA⟩ := tells_L (n := n) (E := E) (plain := plain) hS (show (N 14 0).toNat < 6 by omega) hk0 hk3 hw g3 g2 hn g7 g8 nc n 0 _ (by omega) (by omega) (by omega) (by rw [(A5 _ _ (fun z => by unfold mScr at z; omega)).1]; exact h20) hs5 (by rw [q _ A5]; exact g1) (fun c hc => by
        rw [q _ A5]
        refine ⟨(g4 c hc).1, (g4 c hc).2.1, (g4 c hc).2.2.1, fun p hp hp2 => ?_⟩
        rw [q _ A5]; exact (g4 c hc).2.2.2 p hp hp2) (fun k hk => by rw [q _ A5, q _ A5]; exact g5 k hk)
    refine ⟨M', ?_, A5.trans (t_m hA)⟩
    rw [show (0 : Int32) = iI ((0 : Nat) : Int) from rfl]
    refine e.trans ?_
    unfold lwT
    rw [g6]
end
