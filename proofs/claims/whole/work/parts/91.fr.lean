/-! FRAMES of the invariant -/
/-- (not by rfl: the kernel would unfold what stands behind) -/
theorem obs {α β : Type} (a : α) (f : α → Option β) : (some a).bind f = f a := by rw [Option.bind_some]
/-- what calls that change the night change -/
def nX (B : Nat) : Nat → Nat → Prop := fun b j => (b = B + 0 ∧ 15 ≤ j ∧ j < 19) ∨ (B + 1 ≤ b ∧ b ≤ B + 12) ∨ b = B + 63 ∨ b = B + 64 ∨ b = B + 78 ∨ b = B + 79 ∨ (B + 81 ≤ b ∧ b ≤ B + 104) ∨ (B + 51 ≤ b ∧ b ≤ B + 62) ∨ b = B + 65 ∨ b = B + 66 ∨ (b = B + 105 ∧ (j = 0 ∨ j = 1 ∨ j = 8 ∨ j = 11 ∨ j = 18 ∨ j = 34 ∨ j = 38 ∨ j = 39 ∨ j = 40 ∨ j = 50 ∨ j = 51 ∨ j = 52 ∨ j = 53)) ∨ b = B + 106 ∨ b = B + 107 ∨ b = B + 110 ∨ b = B + 111 ∨ b = B + 112 ∨ b = B + 113 ∨ (B + 123 ≤ b ∧ b ≤ B + 132)
section
variable {n : Nat} {E : zE} {S : zS} {M M' : zH} {B : Nat} {N N' : Nt} {Ls : Nat → Lw} {X : Nat → Nat → Prop}
theorem nX_q {b j : Nat} (h : qX B b j) : nX B b j := by unfold qX cQ mQ at h; unfold nX; omega
theorem Inv.upd (h : Inv S M B) (hA : zAg (nX B) M M') (hnow : ∃ N Ls, CN S M' B (B + 1) N Ls ∧ MN M' B N Ls ∧ N 9 0 ≤ 999 ∧ PastR M' B N) (hMi' : MiscR M' B) : Inv S M' B := by
  obtain ⟨h1, h2, _, hI0, hI1, hT, hMi, hY, hCo⟩ := h
  refine ⟨h1, h2, hnow, hI0.ag (by decide) hA (fun q => by unfold nX at q; omega) (fun q => by unfold nX at q; omega) (fun j q => by unfold nX at q; omega) (fun b j q => ?_), hI1.ag (by decide) hA (fun q => by unfold nX at q; omega) (fun q => by unfold nX at q; omega) (fun j q => by unfold nX at q; omega) (fun b j q => ?_), hT.ag hA (fun q => by unfold nX at q; omega) (fun j q => by unfold nX at q; omega) (fun q => by unfold nX at q; omega) (fun j q => by unfold nX at q; omega), hMi', hY.ag hA (fun q => by unfold nX at q; omega) (fun q => by unfold nX at q; omega) (fun b j q1 q2 q => by unfold nX at q; omega) (fun j q => by unfold nX at q; omega), hCo.ag hA (fun j q => by unfold nX at q; omega) (fun b j hb q => by unfold nX at q; omega)⟩
  · have e : iaI 0 = 14 := rfl
    rw [e]; unfold nX at q; omega
  · have e : iaI 1 = 26 := rfl
    rw [e]; unfold nX at q; omega
theorem CN.upd {a : Nat} (h : CN S M B a N Ls) (hA : zAg X M M') (hx : ∀ b j, X b j → b < B + 136) (hr : ∀ j, mR M' (a + 11) j = mR M (a + 11) j) (hR : NiR M' a N') (hN : NdOK N') (e : N' 13 0 = N 13 0) : CN S M' B a N' Ls := by
  refine ⟨hR, hN, fun j hj => ?_⟩
  rw [hr, e]
  refine ⟨(h.2.2 j hj).1, fun hl => ?_⟩
  obtain ⟨t, g1, g2, g3⟩ := (h.2.2 j hj).2 hl
  exact ⟨t, g1, g2, g3.ag hA (fun b j h4 h5 h6 => by have := hx _ _ h6; omega)⟩
theorem MN.upd (h : MN M B N Ls) (h20 : mI M' (B + 105) 20 = 0) (hR : RwN (mI M' (B + 107)) N') (hN : NdOK N') (e : N' 13 0 = N 13 0) (he : ∀ i, 80 ≤ i → mI M' (B + 107) i = mI M (B + 107) i) : MN M' B N' Ls :=
  ⟨h20, hR, hN, fun j hj hl => (h.2.2.2 j hj (by rw [← e]; exact hl)).cg (fun i h1 _ => he i (by omega))⟩
/-- both calls answer alike, and what holds goes on -/
def Ag1 (S : zS) (B : Nat) (M : zH) {α : Type} (f g : zH → Option (α × zH)) : Prop := ∃ r M1 M2, f M = some (r, M1) ∧ g M1 = some (r, M2) ∧ Inv S M2 B
theorem Ag1.q {α : Type} {f g : zH → Option (α × zH)} (h : Inv S M B) {r : α} {M1 M2 : zH} (e1 : f M = some (r, M1)) (h1 : zAg (cQ B) M M1) (e2 : g M1 = some (r, M2)) (h2 : zAg (mQ B) M1 M2) : Ag1 S B M f g :=
  ⟨r, M1, M2, e1, e2, h.q ((h1.mono (fun _ _ q => Or.inl q)).trans (h2.mono (fun _ _ q => Or.inr q)))⟩
theorem cQ_c (h : zAg (cScr B) M M') : zAg (cQ B) M M' := h.mono (fun b j q => by unfold cScr at q; unfold cQ; omega)
theorem mQ_m (h : zAg (mScr B) M M') : zAg (mQ B) M M' := h.mono (fun b j q => by unfold mScr at q; unfold mQ; omega)
theorem mQ_f (h : zAg (fScr B) M M') : zAg (mQ B) M M' := h.mono (fun b j q => by unfold fScr mScr at q; unfold mQ; omega)
theorem MN.cq (hC : MN M B N Ls) (hA : zAg (cQ B) M M') : MN M' B N Ls := hC.ag hA (fun j q => by unfold cQ at q; omega) (fun q => by unfold cQ at q; omega)
theorem MN.mq (hC : MN M B N Ls) (hA : zAg (mQ B) M M') : MN M' B N Ls := hC.ag hA (fun j q => by unfold mQ at q; omega) (fun q => by unfold mQ at q; omega)
theorem CN.cq (h : CN S M B (B + 1) N Ls) (hA : zAg (cQ B) M M') : CN S M' B (B + 1) N Ls := h.ag hA (fun b j q => by unfold cQ at q; omega)
theorem mQ_0 : zAg (mQ B) M (setI M (B + 105) 0 (iI 0)) := zAg.rfl'.setI (Or.inl ⟨rfl, Or.inl rfl⟩)
theorem nA1 : nightAt B (B + 1) := Or.inl rfl
/-! accept, refuse, tell -/
theorem s_accept (hS : ShOK S B) {x : Int32} : F_NC_accept n E S (B + 0) x M = some (x, setI M (B + 0) 15 (iI 0)) := by
  unfold F_NC_accept
  rw [hS.p0, Option.bind_some]
  rfl
/-- where the refusals of a code are counted -/
def rfC (code : Int) : Nat := if code = -1 then 0 else if code = -2 then 1 else if code = -3 then 2 else if code = -5 then 3 else 4
def rfM (code : Int) : Nat := (-code).toNat
def isRf (code : Int) : Prop := code = -1 ∨ code = -2 ∨ code = -3 ∨ code = -5 ∨ code = -6
theorem s_refuse (hS : ShOK S B) {code : Int} (hc : isRf code) : F_NC_refuse n E S (B + 0) (iI code) M = some (iI code, setI (setI M (B + 0) 15 (iI code)) (B + 104) (rfC code) (mI M (B + 104) (rfC code) + 1)) := by
  have e : ∀ k, mI (setI M (B + 0) 15 (iI code)) (B + 104) k = mI M (B + 104) k := fun k => mI_a (by omega)
  unfold F_NC_refuse F_NC_refuse_b21
  have w : ∀ (M1 : zH) (x : Int), 0 ≤ x → x ≤ 4 → F_NC_within n E S (iI x) (iI 0) (iI (5 - 1)) M1 = some (true, M1) := fun M1 x h0 h4 => by
    rw [s_withinI (zR_of (by omega) (by omega)) (zR_of (by omega) (by omega)) (zR_of (by omega) (by omega)), decide_eq_true (by omega)]
  rcases hc with rfl | rfl | rfl | rfl | rfl <;>
  · simp (disch := omega) only [hS.p0, Option.bind_some, show (4 : Int32) = iI 4 by decide, iL2, iL1, iL0, iI_neg, iI_sub, xle, if_neg, if_pos, hS.g0_13, hS.l104, w, if_true, hS.r104, hS.w104, e]
    rfl
theorem s_tellN (hS : ShOK S B) {code : Int} (hc : isRf code) : F_Mo_tell n E S (B + 105) (iI code) M = some (iI code, setI (setI M (B + 105) 1 (iI code)) (B + 106) (rfM code) (mI M (B + 106) (rfM code) + 1)) := by
  have e : ∀ k, mI (setI M (B + 105) 1 (iI code)) (B + 106) k = mI M (B + 106) k := fun k => mI_a (by omega)
  unfold F_Mo_tell F_Mo_tell_b10
  rcases hc with rfl | rfl | rfl | rfl | rfl <;>
  · simp (disch := omega) only [iL0, xle, if_neg, hS.p105, Option.bind_some, hS.g105_2, iI_neg, hS.r106, hS.w106, e]
    rfl
theorem s_tellP (hS : ShOK S B) {v : Int} (h0 : 0 ≤ v) (h1 : v ≤ 1000000000) : F_Mo_tell n E S (B + 105) (iI v) M = some (iI v, setI M (B + 105) 1 (iI 0)) := by
  unfold F_Mo_tell F_Mo_tell_b10
  simp (disch := omega) only [iL0, xle, if_pos, hS.p105, Option.bind_some]
/-- both refuse -/
theorem Inv.refuse (h : Inv S M B) {code : Int} (hc : isRf code) : Inv S (setI (setI (setI (setI (setI M (B + 0) 15 (iI code)) (B + 104) (rfC code) (mI M (B + 104) (rfC code) + 1)) (B + 105) 0 (iI 0)) (B + 105) 1 (iI code)) (B + 106) (rfM code) (mI (setI (setI (setI M (B + 0) 15 (iI code)) (B + 104) (rfC code) (mI M (B + 104) (rfC code) + 1)) (B + 105) 0 (iI 0)) (B + 106) (rfM code) + 1)) B := by
  have hA : zAg (nX B) M (setI (setI (setI (setI (setI M (B + 0) 15 (iI code)) (B + 104) (rfC code) (mI M (B + 104) (rfC code) + 1)) (B + 105) 0 (iI 0)) (B + 105) 1 (iI code)) (B + 106) (rfM code) (mI (setI (setI (setI M (B + 0) 15 (iI code)) (B + 104) (rfC code) (mI M (B + 104) (rfC code) + 1)) (B + 105) 0 (iI 0)) (B + 106) (rfM code) + 1)) := by
    refine ((((zAg.rfl'.setI ?_).setI ?_).setI ?_).setI ?_).setI ?_ <;> (unfold nX; omega)
  have hA2 : zAg (fun b j => (b = B + 0 ∧ j = 15) ∨ b = B + 104 ∨ (b = B + 105 ∧ (j = 0 ∨ j = 1)) ∨ b = B + 106) M (setI (setI (setI (setI (setI M (B + 0) 15 (iI code)) (B + 104) (rfC code) (mI M (B + 104) (rfC code) + 1)) (B + 105) 0 (iI 0)) (B + 105) 1 (iI code)) (B + 106) (rfM code) (mI (setI (setI (setI M (B + 0) 15 (iI code)) (B + 104) (rfC code) (mI M (B + 104) (rfC code) + 1)) (B + 105) 0 (iI 0)) (B + 106) (rfM code) + 1)) := by
    refine ((((zAg.rfl'.setI ?_).setI ?_).setI ?_).setI ?_).setI ?_ <;> omega
  obtain ⟨N, Ls, hC, hM, hh, hP⟩ := h.2.2.1
  obtain ⟨⟨a1, a2, a3, a4⟩, b1, b2, b3, b4, b5⟩ := h.2.2.2.2.2.2.1
  refine h.upd hA ⟨N, Ls, hC.ag hA2 (fun b j q => by omega), hM.ag hA2 (fun j q => by omega) (fun q => by omega), hh, hP.ag hA2 (fun q => by omega) (fun j q => by omega) (fun q => by omega) (fun j _ q => by omega) (fun j q => by omega)⟩ ?_
  rw [Nat.add_zero] at a1 a2 a3 a4
  rcases hc with rfl | rfl | rfl | rfl | rfl <;>
  · refine ⟨⟨?_, ?_, ?_, ?_⟩, ?_, ?_, ?_, ?_, ?_⟩ <;> simp [mI_ite, rfC, rfM, a1, a2, a3, a4, b1, b2, b3, b4, b5]
theorem s_mRing {x : Int} (hx : zR x) : F_Mo_isRing n E S (iI x) M = some (decide (0 ≤ x ∧ x ≤ 3), M) := by
  obtain ⟨h1, h2⟩ := hx
  unfold F_Mo_isRing
  rw [xJ h1 h2, jL0, show (3 : Int64) = jJ 3 by decide, s_in (by omega) (by omega) (by omega) (by omega) (by omega) (by omega)]
  rfl
theorem s_mField {x : Int} (hx : zR x) : F_Mo_isField n E S (iI x) M = some (decide (0 ≤ x ∧ x ≤ 7), M) := by
  obtain ⟨h1, h2⟩ := hx
  unfold F_Mo_isField
  rw [xJ h1 h2, jL0, show (7 : Int64) = jJ 7 by decide, s_in (by omega) (by omega) (by omega) (by omega) (by omega) (by omega)]
  rfl
theorem s_mBucket (hS : ShOK S B) (hR : RwN (mI M (B + 107)) N) (hN : NdOK N) {x : Int} (hx : zR x) : F_Mo_isBucket n E S (B + 105) (iI x) M = some (decide (0 ≤ x ∧ x ≤ N 11 0 - 1), M) := by
  obtain ⟨h1, h2⟩ := hx
  have hb := hN.nb
  unfold F_Mo_isBucket
  rw [hS.g105_3, Option.bind_some, iL0, hS.r107 (by omega) (by omega), Option.bind_some, tn0, hR.nb, xJ h1 h2, xJ (by omega) (by omega), jL1, jJ_sub, jL0, s_in (by omega) (by omega) (by omega) (by omega) (by omega) (by omega)]
  rfl
end
