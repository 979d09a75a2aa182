/-! CASES (9): when, drought, worth -/
/-- hours on -/
def nT (N : Nt) : Nat → Nt
  | 0 => N
  | h + 1 => nturn (nT N h) 1
theorem nT_9 {N : Nt} : ∀ h : Nat, nT N h 9 0 = N 9 0 + h := by
  intro h
  induction h with
  | zero => show N 9 0 = N 9 0 + ((0 : Nat) : Int); omega
  | succ h ih =>
    show nturn (nT N h) 1 9 0 = _
    unfold nturn
    rw [if_neg (by decide), if_pos ⟨rfl, rfl⟩, ih]; omega
theorem nT_ok {N : Nt} (hN : NdOK N) (hh : N 9 0 ≤ 999) : ∀ h : Nat, h ≤ 1000 → NdOK (nT N h) := by
  intro h
  induction h with
  | zero => intro _; exact hN
  | succ h ih =>
    intro hl
    refine (ih (by omega)).turn1 ?_
    rw [nT_9]; omega
section
variable {n : Nat} {E : zE} {S : zS} {M M' : zH} {B : Nat} {N N' : Nt} {Ls : Nat → Lw}
theorem nA86 : nightAt B (B + 86) := Or.inr (Or.inr (Or.inr (Or.inr (Or.inr rfl))))
/-- the sketch is laid -/
theorem s_sketch (hS : ShOK S B) (hC : CN S M B (B + 1) N Ls) (hn : 600 ≤ n) : ∃ M', F_Ni_copyFrom n E S (B + 86) (B + 1) M = some M' ∧ CN S M' B (B + 86) N Ls ∧ zAg (cQ B) M M' := by
  obtain ⟨M1, e1, hR1, hr1, hA1⟩ := s_copyFrom (n := n) (E := E) hS.ske hS.now hC.1 hC.2.1 (by omega) (by omega) (fun j hj t ht => ((hC.2.2 j hj).1 t ht).1)
  exact ⟨M1, e1, hC.copy hR1 hr1 hA1 (fun b j q => by unfold nCells at q; omega), hA1.mono (fun b j q => by unfold nCells at q; unfold cQ; omega)⟩
theorem CN.tu {a : Nat} (hS : ShOK S B) (ha : nightAt B a) (hC : CN S M B a N Ls) (hn : 600 ≤ n) (hh : N 9 0 < 2000) : ∃ M', F_Ni_turnAll n E S a (iI 1) M = some M' ∧ CN S M' B a (nturn N 1) Ls ∧ zAg (fun b j => a ≤ b ∧ b < a + 12) M M' := by
  obtain ⟨M2, e2, hR2, hA2⟩ := s_turnAll (n := n) (E := E) (d := 1) (ha.ni hS) hC.1 hC.2.1 (by omega) (Or.inl rfl)
  have hl := ha.lt
  exact ⟨M2, e2, hC.upd hA2 (fun b j q => by omega) (fun j => (hA2 _ _ (fun q => by omega)).2.2) hR2 (hC.2.1.turn1 hh) rfl, hA2.mono (fun b j q => by omega)⟩
theorem MN.tu (hS : ShOK S B) (hM : MN M B N Ls) (hn : 600 ≤ n) (hh : N 9 0 < 2000) : ∃ M', F_Mo_turnAll n E S (B + 105) M = some M' ∧ MN M' B (nturn N 1) Ls ∧ zAg (tuX B) M M' := by
  obtain ⟨M2, e2, hR2, hA2⟩ := s_mturnAll (n := n) (E := E) hS hM.2.1 hM.2.2.1 hn
  exact ⟨M2, e2, hM.upd (by rw [(hA2 _ _ (fun q => by unfold tuX at q; omega)).1]; exact hM.1) hR2 (hM.2.2.1.turn1 hh) rfl (fun i hi => (hA2 _ _ (fun q => by unfold tuX at q; omega)).1), hA2⟩
/-- what a paper's work may change of the model -/
def ppX (B : Nat) : Nat → Nat → Prop := fun b j => (b = B + 107 ∧ 4 ≤ j ∧ j < 54) ∨ (b = B + 105 ∧ (j = 34 ∨ j = 38 ∨ j = 39 ∨ j = 40)) ∨ (B + 123 ≤ b ∧ b ≤ B + 132)
theorem paper_in (hS : ShOK S B) (hn : 600 ≤ n) (hM : MN M B N Ls) : ∃ M1, F_Mo_keepAll n E S (B + 105) (iI 16) M = some M1 ∧ MN M1 B N Ls ∧ (∀ j, j < 50 → mI M1 (B + 110) (800 + j) = mI M (B + 107) (4 + j)) ∧ zAg (fun b j => b = B + 110 ∧ 800 ≤ j) M M1 := by
  obtain ⟨M1, e1, h1, hA1⟩ := s_keepAll (n := n) (E := E) (M := M) (k := 16) hS hn (by decide)
  exact ⟨M1, e1, hM.ag hA1 (fun j q => by omega) (fun q => by omega), h1, hA1.mono (fun b j q => by omega)⟩
/-- the row is as it was, all else but scratch too -/
def mP (B : Nat) (M M' : zH) : Prop := zAg (fun b j => mQ B b j ∨ b = B + 107) M M' ∧ ∀ j, mI M' (B + 107) j = mI M (B + 107) j
theorem mP.q (h : zAg (mQ B) M M') : mP B M M' := ⟨h.mono (fun _ _ q => Or.inl q), fun j => (h _ _ (fun q => by unfold mQ at q; omega)).1⟩
theorem mP.trans {M2 : zH} (h : mP B M M') (h2 : mP B M' M2) : mP B M M2 := ⟨h.1.trans h2.1, fun j => (h2.2 j).trans (h.2 j)⟩
theorem Inv.qr (h : Inv S M B) (hA : zAg (fun b j => qX B b j ∨ b = B + 107) M M') (hr : ∀ j, mI M' (B + 107) j = mI M (B + 107) j) : Inv S M' B := by
  obtain ⟨h1, h2, ⟨N, Ls, hC, hM, hh, hP⟩, hI0, hI1, hT, hMi, hY, hCo⟩ := id h
  have hx : ∀ b j, (qX B b j ∨ b = B + 107) → b < B + 136 ∧ ¬ (B ≤ b ∧ b < B + 78) ∧ ¬ (b = B + 104) ∧ ¬ (b = B + 106) ∧ ¬ (b = B + 108) ∧ ¬ (b = B + 109) ∧ ¬ (b = B + 111) ∧ ¬ (b = B + 114) ∧ ¬ (b = B + 120) ∧ ¬ (b = B + 121) ∧ ¬ (b = B + 122) ∧ ¬ (b = B + 133) ∧ ¬ (b = B + 135) ∧ ¬ (b = B + 105 ∧ j ≠ 0 ∧ j ≠ 34 ∧ j ≠ 38 ∧ j ≠ 39 ∧ j ≠ 40) ∧ ¬ (b = B + 110 ∧ j < 800) := by
    intro b j hq; unfold qX cQ mQ at hq; omega
  refine h.updG (hA.mono (fun b j q => by have := hx b j q; unfold gX; omega)) ⟨N, Ls, hC.ag hA (fun b j q => by have := hx b j q; omega), ⟨by rw [(hA _ _ (fun q => by have := hx _ _ q; omega)).1]; exact hM.1, hM.2.1.cg (fun i _ => hr i), hM.2.2.1, fun j hj hl => (hM.2.2.2 j hj hl).cg (fun i _ _ => hr i)⟩, hh, hP.ag hA (fun q => by have := hx _ _ q; omega) (fun j q => by have := hx _ _ q; omega) (fun q => by have := hx _ _ q; omega) (fun j _ q => by have := hx _ _ q; omega) (fun j q => by have := hx _ _ q; omega)⟩ (hT.ag hA (fun q => by have := hx _ _ q; omega) (fun j q => by have := hx _ _ q; omega) (fun q => by have := hx _ _ q; omega) (fun j q => by have := hx _ _ q; omega)) (hMi.ag hA (fun j _ _ q => by have := hx _ _ q; omega) (fun j _ q => by have := hx _ _ q; omega) (fun j q => by have := hx _ _ q; omega) (fun j q => by have := hx _ _ q; omega))
theorem Ag1.qr {α : Type} {f g : zH → Option (α × zH)} (h : Inv S M B) (V : Nt → (Nat → Lw) → α) (hf : ∀ N Ls, CN S M B (B + 1) N Ls → N 9 0 ≤ 999 → ∃ M', f M = some (V N Ls, M') ∧ zAg (cQ B) M M') (hg : ∀ (M : zH) (N : Nt) (Ls : Nat → Lw), MN M B N Ls → N 9 0 ≤ 999 → ∃ M', g M = some (V N Ls, M') ∧ mP B M M') : Ag1 S B M f g := by
  obtain ⟨hS, hZ, ⟨N, Ls, hC, hM, hh9, hP⟩, _⟩ := id h
  obtain ⟨M1, e1, h1⟩ := hf N Ls hC hh9
  obtain ⟨M2, e2, h2, h3⟩ := hg M1 N Ls (hM.cq h1) hh9
  refine ⟨_, M1, M2, e1, e2, h.qr ((h1.mono (fun _ _ q => Or.inl (Or.inl q))).trans (h2.mono (fun _ _ q => ?_))) (fun j => ?_)⟩
  · rcases q with q | q
    · exact Or.inl (Or.inr q)
    · exact Or.inr q
  · rw [h3 j, (h1 _ _ (fun q => by unfold cQ at q; omega)).1]
theorem mP_0 : mP B M (setI M (B + 105) 0 (iI 0)) := mP.q mQ_0
theorem paper_out {M1 M2 : zH} (hS : ShOK S B) (hn : 600 ≤ n) (h1 : ∀ j, j < 50 → mI M1 (B + 110) (800 + j) = mI M (B + 107) (4 + j)) (hA1 : zAg (fun b j => b = B + 110 ∧ 800 ≤ j) M M1) (hA2 : zAg (ppX B) M1 M2) : ∃ M3, F_Mo_putBack n E S (B + 105) (iI 16) M2 = some M3 ∧ mP B M M3 := by
  obtain ⟨M3, e3, h3, hA3⟩ := s_putBack (n := n) (E := E) (M := M2) (k := 16) hS hn (by decide)
  refine ⟨M3, e3, ((hA1.mono (fun b j q => ?_)).trans (hA2.mono (fun b j q => ?_))).trans (hA3.mono (fun b j q => ?_)), fun j => ?_⟩
  · unfold mQ; omega
  · unfold ppX at q; unfold mQ; omega
  · omega
  · by_cases c : 4 ≤ j ∧ j < 54
    · have e := h3 (j - 4) (by omega)
      rw [show 4 + (j - 4) = j by omega] at e
      have e2 := h1 (j - 4) (by omega)
      rw [show 4 + (j - 4) = j by omega] at e2
      have e4 : mI M2 (B + 110) (50 * 16 + (j - 4)) = mI M1 (B + 110) (800 + (j - 4)) := (hA2 _ _ (fun q => by unfold ppX at q; omega)).1
      rw [e, e4, e2]
    · rw [(hA3 _ _ (fun q => by omega)).1, (hA2 _ _ (fun q => by unfold ppX at q; omega)).1, (hA1 _ _ (fun q => by omega)).1]
theorem ms_pp (h : zAg (mScr B) M M') : zAg (ppX B) M M' := h.mono (fun b j q => by unfold mScr at q; unfold ppX; omega)
theorem tu_pp (h : zAg (tuX B) M M') : zAg (ppX B) M M' := h.mono (fun b j q => by unfold tuX at q; unfold ppX; omega)
/-! when -/
def whV (N : Nt) (Ls : Nat → Lw) (f v : Int) : Nat → Nat → Int
  | 0, _ => -1
  | r + 1, h => if v ≤ flowV (nT N h) Ls f then (h : Int) else whV N Ls f v r (h + 1)
theorem when_c (hS : ShOK S B) (hN : NdOK N) (hh : N 9 0 ≤ 999) (hn : 600 ≤ n) {f v : Int} (hf0 : 0 ≤ f) (hf : f < 8) (hv0 : 0 ≤ v) (hv : v ≤ 400) : ∀ (r h k : Nat) (M : zH), r + h = 61 → r < k → CN S M B (B + 86) (nT N h) Ls → ∃ M', zfix (fun r11 s => F_Pa_hoursUntil_L11 n E S r11 s.1 s.2.1 s.2.2.1 s.2.2.2.1 s.2.2.2.2) k (B + 85, iI f, iI v, iI (h : Int), M) = some (iI (whV N Ls f v r h), M') ∧ zAg (cQ B) M M' := by
  intro r
  induction r with
  | zero =>
    intro h k M hr hk hC
    obtain ⟨k, rfl⟩ : ∃ k', k = k' + 1 := ⟨k - 1, by omega⟩
    refine ⟨M, ?_, zAg.rfl'⟩
    show F_Pa_hoursUntil_L11 n E S _ (B + 85) (iI f) (iI v) (iI (h : Int)) M = _
    unfold F_Pa_hoursUntil_L11
    rw [iL60, if_pos (cltT (by omega) (by omega) (by omega))]; rfl
  | succ r ih =>
    intro h k M hr hk hC
    obtain ⟨k, rfl⟩ : ∃ k', k = k' + 1 := ⟨k - 1, by omega⟩
    have hNT := nT_ok hN hh h (by omega)
    have hb := flowV_b (Ls := Ls) (f := f) hNT
    obtain ⟨M1, e1, hA1⟩ := s_threadsOn (n := n) (E := E) hS nA86 hC hn hf0 hf
    have hC1 := hC.scr nA86 hA1
    show ∃ M', F_Pa_hoursUntil_L11 n E S _ (B + 85) (iI f) (iI v) (iI (h : Int)) M = some (iI (if v ≤ flowV (nT N h) Ls f then (h : Int) else whV N Ls f v r (h + 1)), M') ∧ _
    unfold F_Pa_hoursUntil_L11
    rw [iL60, if_neg (cltF (by omega) (by omega) (by omega)), hS.g85_0, obs, hS.g85_1, obs, hS.ck76, obs, e1, obs]
    by_cases c : v ≤ flowV (nT N h) Ls f
    · rw [if_neg (cltF (by omega) (by omega) (by omega)), if_pos c]; exact ⟨M1, rfl, cQ_c hA1⟩
    · obtain ⟨M2, e2, hC2, hA2⟩ := CN.tu (n := n) (E := E) hS nA86 hC1 hn (by rw [nT_9]; omega)
      obtain ⟨M3, e3, hA3⟩ := ih (h + 1) k M2 (by omega) (by omega) hC2
      rw [if_pos (cltT (by omega) (by omega) (by omega)), if_neg c, (nA86.ni hS).ck, obs, iL1, e2, obs, iI_add]
      exact ⟨M3, e3, ((cQ_c hA1).trans (hA2.mono (fun b j q => by unfold cQ; omega))).trans hA3⟩
theorem when_m {M0 M1 : zH} (hS : ShOK S B) (hN : NdOK N) (hh : N 9 0 ≤ 999) (hn : 600 ≤ n) {f v : Int} (hf0 : 0 ≤ f) (hf : f < 8) (hv0 : 0 ≤ v) (hv : v ≤ 400) (h1 : ∀ j, j < 50 → mI M1 (B + 110) (800 + j) = mI M0 (B + 107) (4 + j)) (hA1 : zAg (fun b j => b = B + 110 ∧ 800 ≤ j) M0 M1) : ∀ (r h k : Nat) (M : zH), r + h = 61 → r < k → MN M B (nT N h) Ls → zAg (ppX B) M1 M → ∃ M', zfix (fun r34 s => F_Mo_when_L34 n E S r34 s.1 s.2.1 s.2.2.1 s.2.2.2.1 s.2.2.2.2) k (B + 105, iI f, iI v, iI (h : Int), M) = some (iI (whV N Ls f v r h), M') ∧ mP B M0 M' := by
  intro r
  induction r with
  | zero =>
    intro h k M hr hk hC hA
    obtain ⟨k, rfl⟩ : ∃ k', k = k' + 1 := ⟨k - 1, by omega⟩
    obtain ⟨M3, e3, hP3⟩ := paper_out (n := n) (E := E) hS hn h1 hA1 hA
    refine ⟨M3, ?_, hP3⟩
    show F_Mo_when_L34 n E S _ (B + 105) (iI f) (iI v) (iI (h : Int)) M = _
    unfold F_Mo_when_L34 F_Mo_when_b59
    rw [iL61, if_pos (cleT (by omega) (by omega) (by omega)), hS.ck105, obs, iL16, e3, obs, iL60, if_neg (cleF (by omega) (by omega) (by omega))]; rfl
  | succ r ih =>
    intro h k M hr hk hC hA
    obtain ⟨k, rfl⟩ : ∃ k', k = k' + 1 := ⟨k - 1, by omega⟩
    have hNT := nT_ok hN hh h (by omega)
    have hb := flowV_b (Ls := Ls) (f := f) hNT
    obtain ⟨M2, e2, hA2⟩ := s_mflow (n := n) (E := E) hS hC hn hf0 hf
    have hC2 := hC.scr hA2
    show ∃ M', F_Mo_when_L34 n E S _ (B + 105) (iI f) (iI v) (iI (h : Int)) M = some (iI (if v ≤ flowV (nT N h) Ls f then (h : Int) else whV N Ls f v r (h + 1)), M') ∧ _
    unfold F_Mo_when_L34 F_Mo_when_b59
    rw [iL61, if_neg (cleF (by omega) (by omega) (by omega)), hS.ck105, obs, e2, obs]
    by_cases c : v ≤ flowV (nT N h) Ls f
    · obtain ⟨M3, e3, hP3⟩ := paper_out (n := n) (E := E) hS hn h1 hA1 (hA.trans (ms_pp hA2))
      rw [if_pos (cleT (by omega) (by omega) (by omega)), if_pos c, obs, iL16, e3, obs, iL60, if_pos (cleT (by omega) (by omega) (by omega))]
      exact ⟨M3, rfl, hP3⟩
    · obtain ⟨M3, e3, hC3, hA3⟩ := MN.tu (n := n) (E := E) hS hC2 hn (by rw [nT_9]; omega)
      obtain ⟨M4, e4, hP4⟩ := ih (h + 1) k M3 (by omega) (by omega) hC3 ((hA.trans (ms_pp hA2)).trans (tu_pp hA3))
      rw [if_neg (cleF (by omega) (by omega) (by omega)), if_neg c, e3, obs, iL1, iI_add]
      exact ⟨M4, e4, hP4⟩
theorem s_w400 {x : Int} (hx : zR x) : F_NC_within n E S (iI x) 0 400 M = some (decide (0 ≤ x ∧ x ≤ 400), M) := by
  rw [iL0, iL400, s_withinI hx (zR_of (by omega) (by omega)) (zR_of (by omega) (by omega))]
theorem s_in400 {x : Int} (hx : zR x) : F_Mo_in n E S (iI x).toInt64 0 400 M = some (decide (0 ≤ x ∧ x ≤ 400), M) := by
  rw [xJ hx.1 hx.2, jL0, show (400 : Int64) = jJ 400 by decide, s_in (by have := hx.1; omega) (by have := hx.2; omega) (by omega) (by omega) (by omega) (by omega)]
theorem c_when (h : Inv S M B) (hn : 100000 ≤ n) {x y : Int} (hx : zR x) (hy : zR y) : Ag1 S B M (fun M => F_NC_when n E S (B + 0) (iI x) (iI y) M) (fun M => F_Mo_when n E S (B + 105) (iI x) (iI y) M) := by
  have hS := h.1
  refine Ag1.qr h (fun N Ls => iI (if (0 ≤ x ∧ x ≤ 7) ∧ (0 ≤ y ∧ y ≤ 400) then whV N Ls x y 61 0 else -1)) (fun N Ls hC hh => ?_) (fun M N Ls hM hh => ?_)
  · show ∃ M', F_NC_when n E S (B + 0) (iI x) (iI y) M = _ ∧ _
    unfold F_NC_when
    rw [s_isField hx, obs]
    by_cases c1 : 0 ≤ x ∧ x ≤ 7
    · rw [if_pos (decide_eq_true c1), s_w400 hy, obs]
      by_cases c2 : 0 ≤ y ∧ y ≤ 400
      · obtain ⟨M1, e1, hC1, hA1⟩ := s_sketch (n := n) (E := E) hS hC (by omega)
        obtain ⟨M2, e2, hA2⟩ := when_c (n := n) (E := E) hS hC.2.1 hh (by omega) c1.1 (show x < 8 by omega) c2.1 c2.2 61 0 n M1 (by omega) (by omega) hC1
        rw [if_pos (decide_eq_true c2), if_pos (show (0 ≤ x ∧ x ≤ 7) ∧ (0 ≤ y ∧ y ≤ 400) from ⟨c1, c2⟩), hS.g0_12, obs, hS.g0_0, obs, hS.ck85, obs, be_]
        unfold F_Pa_hoursUntil F_Pa_hoursUntil_b11
        rw [hS.g85_1, obs, (nA86.ni hS).ck, obs, e1, obs]
        exact ⟨M2, e2, hA1.trans hA2⟩
      · rw [if_neg (fun q => c2 (of_decide_eq_true q)), if_neg (fun q => c2 q.2)]; exact ⟨M, rfl, zAg.rfl'⟩
    · rw [if_neg (fun q => c1 (of_decide_eq_true q)), if_neg (fun q => c1 q.1)]; exact ⟨M, rfl, zAg.rfl'⟩
  · show ∃ M', F_Mo_when n E S (B + 105) (iI x) (iI y) M = _ ∧ _
    have hM0 := hM.mq (mQ_0 (M := M))
    unfold F_Mo_when
    rw [iL0, hS.p105, obs, s_mField hx, obs]
    by_cases c1 : 0 ≤ x ∧ x ≤ 7
    · rw [if_pos (decide_eq_true c1), s_in400 hy, obs]
      by_cases c2 : 0 ≤ y ∧ y ≤ 400
      · obtain ⟨M1, e1, hM1, h1, hA1⟩ := paper_in (n := n) (E := E) hS (by omega) hM0
        obtain ⟨M2, e2, hP2⟩ := when_m (n := n) (E := E) hS hM.2.2.1 hh (by omega) c1.1 (show x < 8 by omega) c2.1 c2.2 h1 hA1 61 0 n M1 (by omega) (by omega) hM1 zAg.rfl'
        rw [if_pos (decide_eq_true c2), if_pos (show (0 ≤ x ∧ x ≤ 7) ∧ (0 ≤ y ∧ y ≤ 400) from ⟨c1, c2⟩), hS.ck105, obs, iL16, e1, obs]
        unfold F_Mo_when_b34
        exact ⟨M2, e2, mP_0.trans hP2⟩
      · rw [if_neg (fun q => c2 (of_decide_eq_true q)), if_neg (fun q => c2 q.2)]; exact ⟨_, rfl, mP_0⟩
    · rw [if_neg (fun q => c1 (of_decide_eq_true q)), if_neg (fun q => c1 q.1)]; exact ⟨_, rfl, mP_0⟩
/-! drought -/
/-- the run that is under way, the longest -/
def drV (N : Nt) (Ls : Nat → Lw) (f : Int) : Nat → Int × Int
  | 0 => (0, 0)
  | h + 1 => (if flowV (nT N h) Ls f = 0 then (drV N Ls f h).1 + 1 else 0, max (drV N Ls f h).2 (if flowV (nT N h) Ls f = 0 then (drV N Ls f h).1 + 1 else 0))
theorem drV_b {f : Int} : ∀ h : Nat, (0 ≤ (drV N Ls f h).1 ∧ (drV N Ls f h).1 ≤ h) ∧ (0 ≤ (drV N Ls f h).2 ∧ (drV N Ls f h).2 ≤ h) := by
  intro h
  induction h with
  | zero => exact ⟨⟨Int.le_refl 0, Int.le_refl 0⟩, ⟨Int.le_refl 0, Int.le_refl 0⟩⟩
  | succ h ih =>
    show (0 ≤ (if flowV (nT N h) Ls f = 0 then (drV N Ls f h).1 + 1 else 0) ∧ (if flowV (nT N h) Ls f = 0 then (drV N Ls f h).1 + 1 else 0) ≤ ((h + 1 : Nat) : Int)) ∧ (0 ≤ max (drV N Ls f h).2 (if flowV (nT N h) Ls f = 0 then (drV N Ls f h).1 + 1 else 0) ∧ max (drV N Ls f h).2 (if flowV (nT N h) Ls f = 0 then (drV N Ls f h).1 + 1 else 0) ≤ ((h + 1 : Nat) : Int))
    split <;> omega
theorem c_drought (h : Inv S M B) (hn : 100000 ≤ n) {x : Int} (hx : zR x) : Ag1 S B M (fun M => F_NC_drought n E S (B + 0) (iI x) M) (fun M => F_Mo_drought n E S (B + 105) (iI x) M) := by
  have hS := h.1
  refine Ag1.qr h (fun N Ls => iI (if 0 ≤ x ∧ x ≤ 7 then (drV N Ls x 60).2 else -1)) (fun N Ls hC hh => ?_) (fun M N Ls hM hh => ?_)
  · show ∃ M', F_NC_drought n E S (B + 0) (iI x) M = _ ∧ _
    unfold F_NC_drought
    rw [s_isField hx, obs]
    by_cases c1 : 0 ≤ x ∧ x ≤ 7
    · obtain ⟨M1, e1, hC1, hA1⟩ := s_sketch (n := n) (E := E) hS hC (by omega)
      rw [if_pos (decide_eq_true c1), if_pos c1, hS.g0_12, obs, hS.g0_0, obs, hS.ck85, obs, be_]
      unfold F_Pa_longestDrought F_Pa_longestDrought_b16
      rw [hS.g85_1, obs, (nA86.ni hS).ck, obs, e1, obs]
      obtain ⟨s', m, ⟨M2, hs', hC2, hA2⟩, e⟩ := zfix_inv (F := fun r16 s => F_Pa_longestDrought_L16 n E S r16 s.1 s.2.1 s.2.2.1 s.2.2.2.1 s.2.2.2.2.1 s.2.2.2.2.2) (fun i s => ∃ M2, s = (B + 85, iI x, iI (drV N Ls x i).2, iI (drV N Ls x i).1, iI (i : Int), M2) ∧ CN S M2 B (B + 86) (nT N i) Ls ∧ zAg (cQ B) M M2) 60 (fun i hi s hI' => by
        obtain ⟨M2, rfl, hC2, hA2⟩ := hI'
        have hNT := nT_ok hC.2.1 hh i (by omega)
        have hb := flowV_b (Ls := Ls) (f := x) hNT
        have hd := drV_b (N := N) (Ls := Ls) (f := x) i
        obtain ⟨M3, e3, hA3⟩ := s_threadsOn (n := n) (E := E) hS nA86 hC2 (by omega) c1.1 (show x < 8 by omega)
        obtain ⟨M4, e4, hC4, hA4⟩ := CN.tu (n := n) (E := E) hS nA86 (hC2.scr nA86 hA3) (by omega) (by rw [nT_9]; omega)
        refine ⟨(B + 85, iI x, iI (drV N Ls x (i + 1)).2, iI (drV N Ls x (i + 1)).1, iI ((i + 1 : Nat) : Int), M4), ⟨M4, rfl, hC4, (hA2.trans (cQ_c hA3)).trans (hA4.mono (fun b j q => by unfold cQ; omega))⟩, fun rec => ?_⟩
        show F_Pa_longestDrought_L16 n E S rec (B + 85) (iI x) (iI (drV N Ls x i).2) (iI (drV N Ls x i).1) (iI (i : Int)) M2 = rec (B + 85, iI x, iI (max (drV N Ls x i).2 (if flowV (nT N i) Ls x = 0 then (drV N Ls x i).1 + 1 else 0)), iI (if flowV (nT N i) Ls x = 0 then (drV N Ls x i).1 + 1 else 0), iI ((i + 1 : Nat) : Int), M4)
        unfold F_Pa_longestDrought_L16 F_Pa_longestDrought_b46
        rw [iL60, if_neg (cleF (by omega) (by omega) (by omega)), hS.g85_0, obs, hS.g85_1, obs, hS.ck76, obs, e3, obs, iL0]
        by_cases c : flowV (nT N i) Ls x = 0
        · rw [if_pos (show (iI (flowV (nT N i) Ls x), M3).1 = iI 0 from ceqT c), if_pos c, iL1, iI_add, s_maxI (zR_of (by omega) (by omega)) (zR_of (by omega) (by omega)), obs, obs, (nA86.ni hS).ck, obs, e4, obs, iI_add]
          rfl
        · rw [if_neg (show ¬ (iI (flowV (nT N i) Ls x), M3).1 = iI 0 from ceqF c (by omega) (by omega) (by omega) (by omega)), if_neg c, s_maxI (zR_of (by omega) (by omega)) (zR_of (by omega) (by omega)), obs, obs, (nA86.ni hS).ck, obs, iL1, e4, obs, iI_add]
          rfl) n 0 (B + 85, iI x, 0, 0, 0, M1) (by omega) (by omega) ⟨M1, rfl, hC1, hA1⟩
      refine ⟨M2, ?_, hA2⟩
      rw [e, hs']
      show F_Pa_longestDrought_L16 n E S _ (B + 85) (iI x) (iI (drV N Ls x 60).2) (iI (drV N Ls x 60).1) (iI ((60 : Nat) : Int)) M2 = _
      unfold F_Pa_longestDrought_L16
      rw [if_pos (by decide)]
    · rw [if_neg (fun q => c1 (of_decide_eq_true q)), if_neg c1]; exact ⟨M, rfl, zAg.rfl'⟩
  · show ∃ M', F_Mo_drought n E S (B + 105) (iI x) M = _ ∧ _
    have hM0 := hM.mq (mQ_0 (M := M))
    unfold F_Mo_drought
    rw [iL0, hS.p105, obs, s_mField hx, obs]
    by_cases c1 : 0 ≤ x ∧ x ≤ 7
    · obtain ⟨M1, e1, hM1, h1, hA1⟩ := paper_in (n := n) (E := E) hS (by omega) hM0
      rw [if_pos (decide_eq_true c1), if_pos c1, hS.ck105, obs, iL16, e1, obs]
      unfold F_Mo_drought_b27
      obtain ⟨s', m, ⟨M2, hs', hM2, hA2⟩, e⟩ := zfix_inv (F := fun r16 s => F_Mo_drought_L27 n E S r16 s.1 s.2.1 s.2.2.1 s.2.2.2.1 s.2.2.2.2.1 s.2.2.2.2.2) (fun i s => ∃ M2, s = (B + 105, iI x, iI (drV N Ls x i).2, iI (drV N Ls x i).1, iI (i : Int), M2) ∧ MN M2 B (nT N i) Ls ∧ zAg (ppX B) M1 M2) 60 (fun i hi s hI' => by
        obtain ⟨M2, rfl, hM2, hA2⟩ := hI'
        have hNT := nT_ok hM.2.2.1 hh i (by omega)
        have hb := flowV_b (Ls := Ls) (f := x) hNT
        have hd := drV_b (N := N) (Ls := Ls) (f := x) i
        obtain ⟨M3, e3, hA3⟩ := s_mflow (n := n) (E := E) hS hM2 (by omega) c1.1 (show x < 8 by omega)
        obtain ⟨M4, e4, hM4, hA4⟩ := MN.tu (n := n) (E := E) hS (hM2.scr hA3) (by omega) (by rw [nT_9]; omega)
        refine ⟨(B + 105, iI x, iI (drV N Ls x (i + 1)).2, iI (drV N Ls x (i + 1)).1, iI ((i + 1 : Nat) : Int), M4), ⟨M4, rfl, hM4, (hA2.trans (ms_pp hA3)).trans (tu_pp hA4)⟩, fun rec => ?_⟩
        show F_Mo_drought_L27 n E S rec (B + 105) (iI x) (iI (drV N Ls x i).2) (iI (drV N Ls x i).1) (iI (i : Int)) M2 = rec (B + 105, iI x, iI (max (drV N Ls x i).2 (if flowV (nT N i) Ls x = 0 then (drV N Ls x i).1 + 1 else 0)), iI (if flowV (nT N i) Ls x = 0 then (drV N Ls x i).1 + 1 else 0), iI ((i + 1 : Nat) : Int), M4)
        have b49 : ∀ r : Int, 0 ≤ r → r ≤ 100 → F_Mo_drought_b49 n E S rec (B + 105) (iI x) (iI (drV N Ls x i).2) (iI (i : Int)) (iI r) M3 = rec (B + 105, iI x, iI (max (drV N Ls x i).2 r), iI r, iI ((i + 1 : Nat) : Int), M4) := fun r r0 r1 => by
          unfold F_Mo_drought_b49 F_Mo_drought_b60
          rw [hS.ck105, obs, e4, obs, iL1, iI_add]
          by_cases c : r ≤ (drV N Ls x i).2
          · rw [if_pos (cleT (by omega) (by omega) (by omega)), Int.max_eq_left c]; rfl
          · rw [if_neg (cleF (by omega) (by omega) (by omega)), obs, Int.max_eq_right (by omega)]; rfl
        unfold F_Mo_drought_L27
        rw [iL60, if_neg (cleF (by omega) (by omega) (by omega)), hS.ck105, obs, e3, obs, iL0]
        by_cases c : flowV (nT N i) Ls x = 0
        · rw [if_pos (show (iI (flowV (nT N i) Ls x), M3).1 = iI 0 from ceqT c), if_pos c, iL1, iI_add]
          exact b49 _ (by omega) (by omega)
        · rw [if_neg (show ¬ (iI (flowV (nT N i) Ls x), M3).1 = iI 0 from ceqF c (by omega) (by omega) (by omega) (by omega)), if_neg c]
          exact b49 0 (by omega) (by omega)) n 0 (B + 105, iI x, 0, 0, 0, M1) (by omega) (by omega) ⟨M1, rfl, hM1, zAg.rfl'⟩
      obtain ⟨M3, e3, hP3⟩ := paper_out (n := n) (E := E) hS (by omega) h1 hA1 hA2
      refine ⟨M3, ?_, mP_0.trans hP3⟩
      refine e.trans ?_
      rw [hs']
      show F_Mo_drought_L27 n E S _ (B + 105) (iI x) (iI (drV N Ls x 60).2) (iI (drV N Ls x 60).1) (iI ((60 : Nat) : Int)) M2 = _
      unfold F_Mo_drought_L27
      rw [if_pos (by decide), hS.ck105, obs, iL16, e3, obs]
    · rw [if_neg (fun q => c1 (of_decide_eq_true q)), if_neg c1]; exact ⟨_, rfl, mP_0⟩
end
