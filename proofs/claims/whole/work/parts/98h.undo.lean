/-! CASES (6): block, ream, set, pass, undo -/
/-- all that may change but images, years, constants, bytes -/
def gX (B : Nat) : Nat → Nat → Prop := fun b j => b < B + 136 ∧ ¬ (b = B + 13 ∨ (B + 14 ≤ b ∧ b ≤ B + 38) ∨ (b = B + 0 ∧ j = 14) ∨ (B + 39 ≤ b ∧ b < B + 51) ∨ b = B + 108 ∨ b = B + 109 ∨ b = B + 120 ∨ b = B + 121 ∨ b = B + 122 ∨ b = B + 133 ∨ b = B + 135 ∨ (b = B + 105 ∧ j = 56))
def gC (B : Nat) : Nat → Nat → Prop := fun b j => gX B b j ∧ b ≤ B + 103 ∧ ¬ (b = B + 0 ∧ j = 15)
def gM (B : Nat) : Nat → Nat → Prop := fun b j => gX B b j ∧ B + 105 ≤ b ∧ b ≠ B + 106 ∧ ¬ (b = B + 105 ∧ j = 1)
def Now (S : zS) (M : zH) (B : Nat) : Prop := ∃ N Ls, CN S M B (B + 1) N Ls ∧ MN M B N Ls ∧ N 9 0 ≤ 999 ∧ PastR M B N
def Msc (M : zH) (B : Nat) : Prop := mI M (B + 0) 16 = mI M (B + 105) 11 ∧ mI M (B + 0) 17 = mI M (B + 105) 18 ∧ mI M (B + 0) 18 = mI M (B + 105) 52
section
variable {n : Nat} {E : zE} {S : zS} {M M' : zH} {B : Nat} {N N' : Nt} {Ls : Nat → Lw} {X : Nat → Nat → Prop}
theorem Inv.updG (h : Inv S M B) (hA : zAg (gX B) M M') (hnow : Now S M' B) (hT : TapeR M' B) (hMi : MiscR M' B) : Inv S M' B := by
  obtain ⟨h1, h2, _, hI0, hI1, _, _, hY, hCo⟩ := h
  refine ⟨h1, h2, hnow, hI0.ag (by decide) hA (fun q => by unfold gX at q; omega) (fun q => by unfold gX at q; omega) (fun j q => by unfold gX at q; omega) (fun b j q => ?_), hI1.ag (by decide) hA (fun q => by unfold gX at q; omega) (fun q => by unfold gX at q; omega) (fun j q => by unfold gX at q; omega) (fun b j q => ?_), hT, hMi, hY.ag hA (fun q => by unfold gX at q; omega) (fun q => by unfold gX at q; omega) (fun b j q1 q2 q => by unfold gX at q; omega) (fun j q => by unfold gX at q; omega), hCo.ag hA (fun j q => by unfold gX at q; omega) (fun b j hb q => by unfold gX at q; omega)⟩
  · have e : iaI 0 = 14 := rfl
    rw [e]; unfold gX at q; omega
  · have e : iaI 1 = 26 := rfl
    rw [e]; unfold gX at q; omega
theorem Now.ag (h : Now S M B) (hA : zAg X M M') (hx : ∀ b j, X b j → (b = B + 0) ∨ b = B + 104 ∨ (b = B + 105 ∧ (j = 0 ∨ j = 1 ∨ j = 11 ∨ j = 18 ∨ j = 52 ∨ j = 13)) ∨ b = B + 106 ∨ (b = B + 67)) : Now S M' B := by
  obtain ⟨N, Ls, hC, hM, hh, hP⟩ := h
  refine ⟨N, Ls, hC.ag hA (fun b j q => by have := hx b j q; omega), hM.ag hA (fun j q => by have := hx _ _ q; omega) (fun q => by have := hx _ _ q; omega), hh, hP.ag hA (fun q => by have := hx _ _ q; omega) (fun j q => by have := hx _ _ q; omega) (fun q => by have := hx _ _ q; omega) (fun j _ q => by have := hx _ _ q; omega) (fun j q => by have := hx _ _ q; omega)⟩
/-- a call that answers by answered / tell -/
theorem Ag1.ans {f g : zH → Option (Int32 × zH)} (h : Inv S M B) {v : Int} (hv : (0 ≤ v ∧ v ≤ 1000000000) ∨ isRf v) {M1 : zH} (e1 : f M = F_NC_answered n E S (B + 0) (iI v) M1) (hA1 : zAg (gC B) M M1)
    (e2 : ∀ M2, zAg (rfX B) M1 M2 → ∃ M3, g M2 = F_Mo_tell n E S (B + 105) (iI v) M3 ∧ zAg (gM B) M2 M3 ∧ Now S M3 B ∧ TapeR M3 B ∧ Msc M3 B) : Ag1 S B M f g := by
  have hS := h.1
  obtain ⟨_, b1, b2, b3, b4, b5⟩ := h.2.2.2.2.2.2.1
  unfold F_NC_answered at e1
  rcases hv with ⟨v0, v1⟩ | hv
  · rw [if_pos (by rw [iL0, xle (by omega) (by omega) (by omega) (by omega)]; exact v0), hS.ck0, obs, s_accept hS, obs] at e1
    have hA2 : zAg (rfX B) M1 (setI M1 (B + 0) 15 (iI 0)) := zAg.rfl'.setI (Or.inl ⟨rfl, rfl⟩)
    obtain ⟨M3, e3, hA3, hN3, hT3, m1, m2, m3⟩ := e2 _ hA2
    rw [s_tellP hS v0 v1] at e3
    have hA4 : zAg (fun b j => b = B + 105 ∧ j = 1) M3 (setI M3 (B + 105) 1 (iI 0)) := zAg.rfl'.setI ⟨rfl, rfl⟩
    have hA : zAg (fun b j => gX B b j ∧ b ≠ B + 104 ∧ b ≠ B + 106) M (setI M3 (B + 105) 1 (iI 0)) := by
      refine (((hA1.mono (fun b j q => ?_)).trans ((zAg.rfl' (M := M1)).setI (v := iI 0) (a := B + 0) (i := 15) ?_)).trans (hA3.mono (fun b j q => ?_))).trans (hA4.mono (fun b j q => ?_))
      · unfold gC at q; exact ⟨q.1, by omega, by omega⟩
      · unfold gX; omega
      · unfold gM at q; exact ⟨q.1, by omega, by omega⟩
      · unfold gX; omega
    have k4 : ∀ b j, ¬ (b = B + 105 ∧ j = 1) → mI (setI M3 (B + 105) 1 (iI 0)) b j = mI M3 b j := fun b j q => (hA4 b j q).1
    refine ⟨iI v, _, _, e1, e3, h.updG (hA.mono (fun b j q => q.1)) (hN3.ag hA4 (fun b j q => by omega)) (hT3.ag hA4 (fun q => by omega) (fun j q => by omega) (fun q => by omega) (fun j q => by omega)) ⟨⟨?_, ?_, ?_, ?_⟩, ?_, ?_, ?_, ?_, ?_⟩⟩
    · rw [mI_s, k4 _ _ (by omega), (hA3 _ _ (fun q => by unfold gM at q; omega)).1, mI_s]
    · rw [k4 _ _ (by omega), k4 _ _ (by omega)]; exact m1
    · rw [k4 _ _ (by omega), k4 _ _ (by omega)]; exact m2
    · rw [k4 _ _ (by omega), k4 _ _ (by omega)]; exact m3
    · rw [(hA _ _ (fun q => by omega)).1, (hA _ _ (fun q => by omega)).1]; exact b1
    · rw [(hA _ _ (fun q => by omega)).1, (hA _ _ (fun q => by omega)).1]; exact b2
    · rw [(hA _ _ (fun q => by omega)).1, (hA _ _ (fun q => by omega)).1]; exact b3
    · rw [(hA _ _ (fun q => by omega)).1, (hA _ _ (fun q => by omega)).1]; exact b4
    · rw [(hA _ _ (fun q => by omega)).1, (hA _ _ (fun q => by omega)).1]; exact b5
  · have hv0 : v < 0 ∧ -6 ≤ v := by unfold isRf at hv; omega
    rw [if_neg (by rw [iL0, xle (by omega) (by omega) (by omega) (by omega)]; omega), hS.ck0, obs, s_refuse hS hv, obs] at e1
    have hA2 : zAg (rfX B) M1 (setI (setI M1 (B + 0) 15 (iI v)) (B + 104) (rfC v) (mI M1 (B + 104) (rfC v) + 1)) := (zAg.rfl'.setI (Or.inl ⟨rfl, rfl⟩)).setI (Or.inr rfl)
    obtain ⟨M3, e3, hA3, hN3, hT3, m1, m2, m3⟩ := e2 _ hA2
    rw [s_tellN hS hv] at e3
    have hA4 : zAg (fun b j => (b = B + 105 ∧ j = 1) ∨ b = B + 106) M3 (setI (setI M3 (B + 105) 1 (iI v)) (B + 106) (rfM v) (mI M3 (B + 106) (rfM v) + 1)) := (zAg.rfl'.setI (Or.inl ⟨rfl, rfl⟩)).setI (Or.inr rfl)
    have hA : zAg (gX B) M (setI (setI M3 (B + 105) 1 (iI v)) (B + 106) (rfM v) (mI M3 (B + 106) (rfM v) + 1)) := by
      refine (((hA1.mono (fun b j q => ?_)).trans (hA2.mono (fun b j q => ?_))).trans (hA3.mono (fun b j q => ?_))).trans (hA4.mono (fun b j q => ?_))
      · exact q.1
      · unfold rfX at q; unfold gX; omega
      · exact q.1
      · unfold gX; omega
    have k4 : ∀ b j, ¬ ((b = B + 105 ∧ j = 1) ∨ b = B + 106) → mI (setI (setI M3 (B + 105) 1 (iI v)) (B + 106) (rfM v) (mI M3 (B + 106) (rfM v) + 1)) b j = mI M3 b j := fun b j q => (hA4 b j q).1
    have q104 : ∀ j, mI M1 (B + 104) j = mI M (B + 104) j := fun j => (hA1 _ _ (fun q => by unfold gC at q; omega)).1
    have q106 : ∀ j, mI M3 (B + 106) j = mI M (B + 106) j := fun j => by rw [(hA3 _ _ (fun q => by unfold gM at q; omega)).1, mI_a (by omega), mI_a (by omega), (hA1 _ _ (fun q => by unfold gC at q; omega)).1]
    have p104 : ∀ j, mI (setI (setI M3 (B + 105) 1 (iI v)) (B + 106) (rfM v) (mI M3 (B + 106) (rfM v) + 1)) (B + 104) j = if j = rfC v then mI M (B + 104) (rfC v) + 1 else mI M (B + 104) j := fun j => by
      rw [k4 _ _ (by omega), (hA3 _ _ (fun q => by unfold gM at q; omega)).1, mI_ite, q104]
      by_cases c : j = rfC v
      · rw [if_pos ⟨rfl, c⟩, if_pos c]
      · rw [if_neg (fun q => c q.2), if_neg c, mI_a (by omega), q104]
    have p106 : ∀ j, mI (setI (setI M3 (B + 105) 1 (iI v)) (B + 106) (rfM v) (mI M3 (B + 106) (rfM v) + 1)) (B + 106) j = if j = rfM v then mI M (B + 106) (rfM v) + 1 else mI M (B + 106) j := fun j => by
      rw [mI_ite, q106]
      by_cases c : j = rfM v
      · rw [if_pos ⟨rfl, c⟩, if_pos c]
      · rw [if_neg (fun q => c q.2), if_neg c, mI_a (by omega), q106]
    refine ⟨iI v, _, _, e1, e3, h.updG hA (hN3.ag hA4 (fun b j q => by omega)) (hT3.ag hA4 (fun q => by omega) (fun j q => by omega) (fun q => by omega) (fun j q => by omega)) ⟨⟨?_, ?_, ?_, ?_⟩, ?_⟩⟩
    · rw [k4 _ _ (by omega), (hA3 _ _ (fun q => by unfold gM at q; omega)).1, mI_a (by omega), mI_s, mI_a (by omega), mI_s]
    · rw [k4 _ _ (by omega), k4 _ _ (by omega)]; exact m1
    · rw [k4 _ _ (by omega), k4 _ _ (by omega)]; exact m2
    · rw [k4 _ _ (by omega), k4 _ _ (by omega)]; exact m3
    · simp only [p104, p106]
      rcases hv with rfl | rfl | rfl | rfl | rfl <;>
      · refine ⟨?_, ?_, ?_, ?_, ?_⟩ <;> simp [rfC, rfM, b1, b2, b3, b4, b5]
theorem Msc.of (h : Inv S M B) (hA : zAg X M M') (h0 : ∀ j, 16 ≤ j → j < 19 → ¬ X (B + 0) j) (h105 : ∀ j, j = 11 ∨ j = 18 ∨ j = 52 → ¬ X (B + 105) j) : Msc M' B := by
  obtain ⟨⟨_, a2, a3, a4⟩, _⟩ := h.2.2.2.2.2.2.1
  refine ⟨?_, ?_, ?_⟩
  · rw [(hA _ _ (h0 _ (by omega) (by omega))).1, (hA _ _ (h105 _ (by omega))).1]; exact a2
  · rw [(hA _ _ (h0 _ (by omega) (by omega))).1, (hA _ _ (h105 _ (by omega))).1]; exact a3
  · rw [(hA _ _ (h0 _ (by omega) (by omega))).1, (hA _ _ (h105 _ (by omega))).1]; exact a4
theorem df_gC {b j : Nat} (h : dfX B b j) : gC B b j := by unfold dfX cScr at h; unfold gC gX; omega
theorem md_gM {b j : Nat} (h : mdX B b j) : gM B b j := by unfold mdX paX fScr mScr rmX at h; unfold gM gX; omega
theorem Ag1.deed {f g : zH → Option (Int32 × zH)} (h : Inv S M B) (hn : 1000 ≤ n) {k a b : Int} (hk : 0 ≤ k ∧ k ≤ 3) (ha : zR a) (hb : zR b)
    (e1 : ∀ r M1, F_De_perform n E S (B + 80) (B + 1) (B + 63) (iI k) (iI a) (iI b) M = some (r, M1) → f M = F_NC_answered n E S (B + 0) r M1)
    (e2 : ∀ (M2 : zH) (N : Nt) (Ls : Nat → Lw) (T : Pst), MN (setI M2 (B + 105) 0 (iI 0)) B N Ls → PM (setI M2 (B + 105) 0 (iI 0)) B T → pU T ≤ 16 → N 9 0 ≤ 999 → ∃ M3, g M2 = F_Mo_tell n E S (B + 105) (iI (pfA N Ls k a b)) M3 ∧ MN M3 B (pfN N Ls k a b) Ls ∧ PM M3 B (pfT N Ls T k a b) ∧ zAg (mdX B) (setI M2 (B + 105) 0 (iI 0)) M3) : Ag1 S B M f g := by
  obtain ⟨hS, hZ, ⟨N, Ls, hC, hM, hh, hP⟩, _, _, hT, _⟩ := id h
  obtain ⟨T, pc, pm, pj⟩ := hP.out
  have hN := hC.2.1
  obtain ⟨M1, f1, hC1, pc1, hA1⟩ := s_perform (n := n) (E := E) hS hC pc pj hh (by omega) hk ha hb
  have hv : (0 ≤ pfA N Ls k a b ∧ pfA N Ls k a b ≤ 1000000000) ∨ isRf (pfA N Ls k a b) := by
    rcases pfA_c (Ls := Ls) (a := a) (b := b) hN hk with q | q
    · left; omega
    · right; unfold isRf; omega
  refine Ag1.ans (n := n) (E := E) h hv (e1 _ _ f1) (hA1.mono (fun b j q => df_gC q)) (fun M2 hA2 => ?_)
  have hA02 : zAg (fun b j => dfX B b j ∨ rfX B b j) M M2 := (hA1.mono (fun _ _ q => Or.inl q)).trans (hA2.mono (fun _ _ q => Or.inr q))
  have hM2 : MN (setI M2 (B + 105) 0 (iI 0)) B N Ls := (hM.ag hA02 (fun j q => by unfold dfX cScr rfX at q; omega) (fun q => by unfold dfX cScr rfX at q; omega)).mq mQ_0
  have pm2 : PM (setI M2 (B + 105) 0 (iI 0)) B T := (pm.ag pj.1 hA02 (fun q => by unfold dfX cScr rfX at q; omega) (fun j _ q => by unfold dfX cScr rfX at q; omega) (fun j _ q => by unfold dfX cScr rfX at q; omega)).ag (X := fun b j => b = B + 105 ∧ j = 0) pj.1 (zAg.rfl'.setI ⟨rfl, rfl⟩) (fun q => by omega) (fun j _ q => by omega) (fun j _ q => by omega)
  obtain ⟨M3, g3, hM3, pm3, hA3⟩ := e2 M2 N Ls T hM2 pm2 pj.1 hh
  have hA23 : zAg (fun b j => mdX B b j ∨ (b = B + 105 ∧ j = 0)) M2 M3 := ((zAg.rfl' (M := M2)).setI (Or.inr ⟨rfl, rfl⟩)).trans (hA3.mono (fun _ _ q => Or.inl q))
  obtain ⟨k1, k2, k3⟩ := pfN_ok (Ls := Ls) (a := a) (b := b) hN hh hk
  have hA13 : zAg (fun b j => rfX B b j ∨ (mdX B b j ∨ (b = B + 105 ∧ j = 0))) M1 M3 := (hA2.mono (fun _ _ q => Or.inl q)).trans (hA23.mono (fun _ _ q => Or.inr q))
  have hA03 : zAg (fun b j => dfX B b j ∨ (rfX B b j ∨ (mdX B b j ∨ (b = B + 105 ∧ j = 0)))) M M3 := (hA1.mono (fun _ _ q => Or.inl q)).trans (hA13.mono (fun _ _ q => Or.inr q))
  refine ⟨M3, g3, hA23.mono (fun b j q => ?_), ⟨_, Ls, hC1.ag hA13 (fun b j q => ?_), hM3, k2, PastR.mk (pc1.ag hA13 (fun q => ?_) (fun j q => ?_)) pm3 (pj.pf hN hh hk)⟩, hT.ag hA03 (fun q => ?_) (fun j q => ?_) (fun q => ?_) (fun j q => ?_), Msc.of h hA03 (fun j _ _ q => ?_) (fun j _ q => ?_)⟩
  · rcases q with q | q
    · exact md_gM q
    · unfold gM gX; omega
  all_goals (simp only [dfX, cScr, rfX, mdX, paX, fScr, mScr, rmX] at q; omega)
theorem c_block (h : Inv S M B) (hn : 100000 ≤ n) {x y : Int} (hx : zR x) (hy : zR y) : Ag1 S B M (fun M => F_NC_block n E S (B + 0) (iI x) (iI y) M) (fun M => F_Mo_block n E S (B + 105) (iI x) (iI y) M) := by
  have hS := h.1
  refine Ag1.deed (n := n) (E := E) h (by omega) (k := 0) (a := x) (b := y) (by decide) hx hy (fun r M1 e => ?_) (fun M2 N Ls T h1 h2 h3 h4 => ?_)
  · show F_NC_block n E S (B + 0) (iI x) (iI y) M = _
    unfold F_NC_block
    rw [hS.g0_10, obs, hS.g0_0, obs, hS.g0_5, obs, hS.ck80, obs, iL0, e, obs, be_]
  · obtain ⟨M', e, k⟩ := s_mblock (n := n) (E := E) hS h1 h2 h3 (by omega) hx hy
    refine ⟨M', ?_, k⟩
    show F_Mo_block n E S (B + 105) (iI x) (iI y) M2 = _
    unfold F_Mo_block
    rw [iL0, hS.p105, obs, hS.ck105, obs, e, obs, be_]
theorem c_ream (h : Inv S M B) (hn : 100000 ≤ n) {x y : Int} (hx : zR x) (hy : zR y) : Ag1 S B M (fun M => F_NC_ream n E S (B + 0) (iI x) (iI y) M) (fun M => F_Mo_ream n E S (B + 105) (iI x) (iI y) M) := by
  have hS := h.1
  refine Ag1.deed (n := n) (E := E) h (by omega) (k := 1) (a := x) (b := y) (by decide) hx hy (fun r M1 e => ?_) (fun M2 N Ls T h1 h2 h3 h4 => ?_)
  · show F_NC_ream n E S (B + 0) (iI x) (iI y) M = _
    unfold F_NC_ream
    rw [hS.g0_10, obs, hS.g0_0, obs, hS.g0_5, obs, hS.ck80, obs, iL1, e, obs, be_]
  · obtain ⟨M', e, k⟩ := s_mream (n := n) (E := E) hS h1 h2 h3 (by omega) hx hy
    refine ⟨M', ?_, k⟩
    show F_Mo_ream n E S (B + 105) (iI x) (iI y) M2 = _
    unfold F_Mo_ream
    rw [iL0, hS.p105, obs, hS.ck105, obs, e, obs, be_]
theorem c_set (h : Inv S M B) (hn : 100000 ≤ n) {x y : Int} (hx : zR x) (hy : zR y) : Ag1 S B M (fun M => F_NC_set n E S (B + 0) (iI x) (iI y) M) (fun M => F_Mo_set n E S (B + 105) (iI x) (iI y) M) := by
  have hS := h.1
  refine Ag1.deed (n := n) (E := E) h (by omega) (k := 2) (a := x) (b := y) (by decide) hx hy (fun r M1 e => ?_) (fun M2 N Ls T h1 h2 h3 h4 => ?_)
  · show F_NC_set n E S (B + 0) (iI x) (iI y) M = _
    unfold F_NC_set
    rw [hS.g0_10, obs, hS.g0_0, obs, hS.g0_5, obs, hS.ck80, obs, iL2, e, obs, be_]
  · obtain ⟨M', e, k⟩ := s_mset (n := n) (E := E) hS h1 h2 h3 (by omega) hx hy
    refine ⟨M', ?_, k⟩
    show F_Mo_set n E S (B + 105) (iI x) (iI y) M2 = _
    unfold F_Mo_set
    rw [iL0, hS.p105, obs, hS.ck105, obs, e, obs, be_]
theorem c_pass (h : Inv S M B) (hn : 100000 ≤ n) : Ag1 S B M (fun M => F_NC_pass n E S (B + 0) M) (fun M => F_Mo_pass n E S (B + 105) M) := by
  have hS := h.1
  refine Ag1.deed (n := n) (E := E) h (by omega) (k := 3) (a := 0) (b := 0) (by decide) (zR_of (by omega) (by omega)) (zR_of (by omega) (by omega)) (fun r M1 e => ?_) (fun M2 N Ls T h1 h2 h3 h4 => ?_)
  · show F_NC_pass n E S (B + 0) M = _
    unfold F_NC_pass
    rw [hS.g0_10, obs, hS.g0_0, obs, hS.g0_5, obs, hS.ck80, obs, iL3, iL0, e, obs, be_]
  · obtain ⟨M', e, k⟩ := s_mpass (n := n) (E := E) (a := 0) (b := 0) hS h1 h2 h3 (by omega) h4
    refine ⟨M', ?_, k⟩
    show F_Mo_pass n E S (B + 105) M2 = _
    unfold F_Mo_pass
    rw [iL0, hS.p105, obs, hS.ck105, obs, e, obs, be_]
/-! undo -/
theorem NdOK.mix {P : Nt} (hN : NdOK N) (hP : NdOK P) (h : snEq N' P) (e : rsEq N N') : NdOK N' := by
  obtain ⟨p0, p1, p2, p3, p4, p5, p6, p7, p8, p9, p10, p11, p12, p13, p14, p15, p16⟩ := hP
  obtain ⟨n0, n1, n2, n3, n4, n5, n6, n7, n8, n9, n10, n11, n12, n13, n14, n15, n16⟩ := hN
  obtain ⟨h0, h1, h2, h3, h4, h5, h9, h11⟩ := h
  obtain ⟨e3, e6, e7, e8, e11, e12, e13, e14⟩ := e
  refine ⟨fun k hk => by rw [h0 k hk]; exact p0 k hk, fun k hk => by rw [h1 k hk]; exact p1 k hk, fun k hk => by rw [h2 k hk]; exact p2 k hk, fun k hk => by rw [h3 k hk]; exact p3 k hk, fun k hk => by rw [h3 k hk, h4 k hk]; exact p4 k hk, fun k hk => by rw [h5 k hk]; exact p5 k hk, fun k hk => by rw [e6 k hk]; exact n6 k hk, fun k hk => by rw [e7 k hk]; exact n7 k hk, fun k hk => by rw [e8 k hk]; exact n8 k hk, by rw [h9 0 (by decide)]; exact p9, by rw [h9 1 (by decide)]; exact p10, by rw [h9 2 (by decide)]; exact p11, by rw [h9 3 (by decide)]; exact p12, by rw [h11]; exact p13, by rw [e12]; exact n14, by rw [e13]; exact n15, by rw [e13, e14]; exact n16⟩
theorem bkN_rs {d a b : Int} {g : Nat → Int} : rsEq N (bkN d a b g N) := by
  unfold bkN
  by_cases c0 : d = 0
  · rw [if_pos c0]; exact rsEq.rfl'
  rw [if_neg c0]
  by_cases c1 : d = 1
  · rw [if_pos c1]; exact rsEq.rfl'
  rw [if_neg c1]
  by_cases c2 : d = 2
  · rw [if_pos c2]
    refine ⟨fun k _ => ?_, fun k _ => ?_, fun k _ => ?_, fun k _ => ?_, ?_, ?_, ?_, ?_⟩ <;> exact if_neg (by omega)
  rw [if_neg c2]
  refine ⟨fun k _ => ?_, fun k _ => ?_, fun k _ => ?_, fun k _ => ?_, ?_, ?_, ?_, ?_⟩ <;> (unfold nturn; rw [if_neg (by omega), if_neg (by omega)]; exact if_neg (by omega))
theorem NiR.cp {a s i : Nat} {g : Nat → Int} (hR : NiR M a N) (c : Nat) (hc : c < 10) (hg : ∀ k, k < 3 → mI M s (i + k) = iI (g k)) : NiR (cpM M s i (a + 1 + c) 0 3) a (fun c' k => if c' = c ∧ k < 3 then g k else N c' k) := by
  refine ⟨fun c' hc' k' hk' => ?_, fun c' h1 h2 => ?_⟩
  · rw [mI_cp]
    show _ = iI (if c' = c ∧ k' < 3 then g k' else N c' k')
    by_cases h : c' = c ∧ k' < 3
    · rw [if_pos ⟨by omega, by omega, by omega⟩, if_pos h, Nat.sub_zero]; exact hg k' h.2
    · rw [if_neg (fun q => h ⟨by omega, by omega⟩), if_neg h]; exact hR.1 c' hc' k' hk'
  · show _ = iI (if c' = c ∧ 0 < 3 then g 0 else N c' 0)
    rw [mI_cp, if_neg (fun q => by omega), if_neg (fun q => by omega)]; exact hR.2 c' h1 h2
theorem NdOK.r4 (hN : NdOK N) {g : Nat → Int} (h : ∀ k, k < 3 → 0 ≤ g k ∧ g k ≤ N 3 k) : NdOK (fun c k => if c = 4 ∧ k < 3 then g k else N c k) := by
  obtain ⟨n0, n1, n2, n3, n4, n5, n6, n7, n8, n9, n10, n11, n12, n13, n14, n15, n16⟩ := hN
  have e : ∀ c k, c ≠ 4 → (if c = 4 ∧ k < 3 then g k else N c k) = N c k := fun c k hc => if_neg (fun q => hc q.1)
  refine ⟨fun k hk => by dsimp only; rw [e _ _ (by decide)]; exact n0 k hk, fun k hk => by dsimp only; rw [e _ _ (by decide)]; exact n1 k hk, fun k hk => by dsimp only; rw [e _ _ (by decide)]; exact n2 k hk, fun k hk => by dsimp only; rw [e _ _ (by decide)]; exact n3 k hk, fun k hk => by dsimp only; rw [e 3 _ (by decide), if_pos ⟨rfl, hk⟩]; exact h k hk, fun k hk => by dsimp only; rw [e _ _ (by decide)]; exact n5 k hk, fun k hk => by dsimp only; rw [e _ _ (by decide)]; exact n6 k hk, fun k hk => by dsimp only; rw [e _ _ (by decide)]; exact n7 k hk, fun k hk => by dsimp only; rw [e _ _ (by decide)]; exact n8 k hk, n9, n10, n11, n12, n13, n14, n15, n16⟩
theorem s_takeBack (hS : ShOK S B) (hC : CN S M B (B + 1) N Ls) {T : Pst} (hP : PC M B T) (hJ : PJ N T) (hn : 600 ≤ n) (hu : 0 < pU T) :
    ∃ M', F_Pt_takeBack n E S (B + 63) (B + 1) M = some (iI (pD T (pU T - 1)), M') ∧ CN S M' B (B + 1) (bkN (pD T (pU T - 1)) (pA T (pU T - 1)) (pB T (pU T - 1)) (pG T (pU T - 1)) N) Ls ∧ PC M' B (pop T) ∧ zAg (dfX B) M M' := by
  have hI := nA1.ni hS
  have hN := hC.2.1
  have hu16 := hJ.1
  obtain ⟨u, hu'⟩ : ∃ u, pU T = u + 1 := ⟨pU T - 1, by omega⟩
  rw [hu', Nat.add_sub_cancel]
  obtain ⟨g1, ⟨g2, g3⟩, g4⟩ := hJ.2 u (by omega)
  rw [if_pos (by omega)] at g4
  obtain ⟨r1, r2, r3, r4⟩ := hP.2 u (by omega)
  have hOK : NdOK (bkN (pD T u) (pA T u) (pB T u) (pG T u) N) := hN.mix g2 g4 bkN_rs
  have hA0 : zAg (fun b j => b = B + 63 ∧ j = 1) M (setI M (B + 63) 1 (iI (u : Int))) := zAg.rfl'.setI ⟨rfl, rfl⟩
  have hC0 : CN S (setI M (B + 63) 1 (iI (u : Int))) B (B + 1) N Ls := hC.ag hA0 (fun b j q => by omega)
  have pc0 : PC (setI M (B + 63) 1 (iI (u : Int))) B (pop T) := by
    refine ⟨?_, fun i hi => ?_⟩
    · rw [mI_s]; show _ = iI ((pU T - 1 : Nat) : Int); rw [hu', Nat.add_sub_cancel]
    · have hi' : i < pU T - 1 := hi
      obtain ⟨x1, x2, x3, x4⟩ := hP.2 i (by omega)
      exact ⟨by rw [mI_a (by omega)]; exact x1, by rw [mI_a (by omega)]; exact x2, by rw [mI_a (by omega)]; exact x3, fun k hk => by rw [mI_a (by omega)]; exact x4 k hk⟩
  have q64 : ∀ j, mI (setI M (B + 63) 1 (iI (u : Int))) (B + 64) j = mI M (B + 64) j := fun j => mI_a (by omega)
  have dA0 : zAg (dfX B) M (setI M (B + 63) 1 (iI (u : Int))) := hA0.mono (fun b j q => by unfold dfX; omega)
  have pcs : ∀ (M1 : zH), zAg (fun b j => B + 2 ≤ b ∧ b ≤ B + 11) (setI M (B + 63) 1 (iI (u : Int))) M1 → PC M1 B (pop T) ∧ zAg (dfX B) M M1 := fun M1 hA => ⟨pc0.ag hA (fun q => by omega) (fun j q => by omega), dA0.trans (hA.mono (fun b j q => by unfold dfX; omega))⟩
  unfold F_Pt_takeBack
  have ed : mI M (B + 64) (6 * u) = iI (pD T u) := r1
  rw [hS.i63, obs, hP.1, hu', iL0, if_pos (by rw [xlt (by omega) (by omega) (by omega) (by omega)]; omega), obs, iL1, iI_sub, show ((u + 1 : Nat) : Int) - 1 = (u : Int) by omega, hS.p63, obs, hS.i63, obs, mI_s, hS.g63_0, obs, iL6, iI_mul, hS.r64 (by omega) (by omega), obs, show ((u : Int) * 6).toNat = 6 * u by omega, q64, r1]
  unfold F_Pt_takeBack_b44
  have b68 : ∀ s0 : Int, (pD T u < 2 → s0 = pB T u * 8 + pA T u) → ∃ M', F_Pt_takeBack_b68 n E S (B + 63) (B + 1) (iI ((u : Int) * 6)) (iI (pD T u)) (iI s0) (setI M (B + 63) 1 (iI (u : Int))) = some (iI (pD T u), M') ∧ CN S M' B (B + 1) (bkN (pD T u) (pA T u) (pB T u) (pG T u) N) Ls ∧ PC M' B (pop T) ∧ zAg (dfX B) M M' := fun s0 hs0 => by
    unfold F_Pt_takeBack_b68 F_Pt_takeBack_b117
    unfold bkN at hOK ⊢
    by_cases c0 : pD T u = 0
    · have hx := g1.2.2 (by omega)
      have hss := hs0 (by omega)
      subst hss
      have hk := hN.blk (k := (pB T u * 8 + pA T u).toNat) (by omega)
      rw [if_pos c0] at hOK ⊢
      rw [c0, if_pos q00, hI.g1, obs, hI.r1 hC0.1 (by omega) (by omega), obs, hI.w1 (by omega) (by omega), obs]
      rcases hk with hk | hk
      · rw [hk] at hOK ⊢
        rw [if_pos q00, show vp_nar .boolean (1 : Int32) = iI (1 - 0) from rfl]
        exact ⟨_, rfl, hC0.set nA1 (by decide) rfl hOK, pcs _ (zAg.rfl'.setI ⟨by omega, by omega⟩)⟩
      · rw [hk] at hOK ⊢
        rw [if_neg (by decide), hI.w1 (by omega) (by omega), obs, show vp_nar .boolean (0 : Int32) = iI (1 - 1) from rfl]
        exact ⟨_, rfl, hC0.set nA1 (by decide) rfl hOK, pcs _ (zAg.rfl'.setI ⟨by omega, by omega⟩)⟩
    rw [if_neg c0] at hOK ⊢
    rw [if_neg (by rw [iL0, xeq (by omega) (by omega) (by omega) (by omega)]; exact c0)]
    by_cases c1 : pD T u = 1
    · have hx := g1.2.2 (by omega)
      have hss := hs0 (by omega)
      subst hss
      rw [if_pos c1] at hOK ⊢
      rw [c1, if_pos q11, hI.g0, obs, hI.r0 hC0.1 (by omega) (by omega), obs, iL1, iI_sub, hI.w0 (by omega) (by omega), obs]
      exact ⟨_, rfl, hC0.set nA1 (by decide) rfl hOK, pcs _ (zAg.rfl'.setI ⟨by omega, by omega⟩)⟩
    rw [if_neg c1] at hOK ⊢
    rw [if_neg (by rw [iL1, xeq (by omega) (by omega) (by omega) (by omega)]; exact c1)]
    have hs4 := hI.2 4 (by decide)
    have hs5 := hI.2 5 (by decide)
    have hg' : ∀ k, k < 3 → mI (setI M (B + 63) 1 (iI (u : Int))) (B + 64) (6 * u + 3 + k) = iI (pG T u k) := fun k hk => by rw [q64]; exact r4 k hk
    by_cases c2 : pD T u = 2
    · rw [if_pos c2] at hOK ⊢
      rw [c2, if_pos q22, hS.g63_0, obs, hI.g5, obs, iL0, iL3, iI_add, pi_cp (ls := 96) (ld := 3) (hS.k 64 (by decide)) hs5.2.1 (hS.n 64 (by decide)) hs5.2.2 (by omega) (by omega) (by omega) (by omega) (by omega) (by omega) (by decide), obs, show ((u : Int) * 6 + 3).toNat = 6 * u + 3 by omega]
      have hA : zAg (fun b j => B + 2 ≤ b ∧ b ≤ B + 11) (setI M (B + 63) 1 (iI (u : Int))) (cpM (setI M (B + 63) 1 (iI (u : Int))) (B + 64) (6 * u + 3) (B + 1 + 1 + 5) 0 3) := zAg.rfl'.cp (fun p _ _ => ⟨by omega, by omega⟩)
      exact ⟨_, rfl, hC0.upd hA (fun b j q => by omega) (fun j => rfl) (hC0.1.cp 5 (by decide) hg') hOK (if_neg (by decide)), pcs _ hA⟩
    · rw [if_neg c2] at hOK ⊢
      obtain ⟨_, _, s2, s3, s4, _, _, _⟩ := g4
      unfold bkN at s3 s4
      rw [if_neg c0, if_neg c1, if_neg c2] at s3 s4
      have hg4 : ∀ k, k < 3 → 0 ≤ pG T u k ∧ pG T u k ≤ N 3 k := fun k hk => by
        have w4 := s4 k hk
        have w3 := s3 k hk
        unfold nturn at w3 w4
        rw [if_neg (by omega), if_neg (by omega)] at w3 w4
        dsimp only at w3 w4
        rw [if_pos ⟨rfl, hk⟩] at w4
        rw [if_neg (by omega)] at w3
        rw [w4, w3]; exact g2.lev hk
      have hN1 := hN.r4 hg4
      rw [if_neg (by rw [iL2, xeq (by omega) (by omega) (by omega) (by omega)]; exact c2), hS.g63_0, obs, hI.g4, obs, iL0, iL3, iI_add, pi_cp (ls := 96) (ld := 3) (hS.k 64 (by decide)) hs4.2.1 (hS.n 64 (by decide)) hs4.2.2 (by omega) (by omega) (by omega) (by omega) (by omega) (by omega) (by decide), obs, show ((u : Int) * 6 + 3).toNat = 6 * u + 3 by omega]
      have hA : zAg (fun b j => B + 2 ≤ b ∧ b ≤ B + 11) (setI M (B + 63) 1 (iI (u : Int))) (cpM (setI M (B + 63) 1 (iI (u : Int))) (B + 64) (6 * u + 3) (B + 1 + 1 + 4) 0 3) := zAg.rfl'.cp (fun p _ _ => ⟨by omega, by omega⟩)
      obtain ⟨M2, e2, hR2, hA2⟩ := s_turnAll (n := n) (E := E) (d := -1) hI (hC0.1.cp 4 (by decide) hg') hN1 (by omega) (Or.inr rfl)
      have e2' : F_Ni_turnAll n E S (B + 1) (-1) (cpM (setI M (B + 63) 1 (iI (u : Int))) (B + 64) (6 * u + 3) (B + 1 + 1 + 4) (Int.toNat 0) (Int.toNat 3)) = some M2 := e2
      rw [e2', obs]
      have hA02 : zAg (fun b j => B + 2 ≤ b ∧ b ≤ B + 11) (setI M (B + 63) 1 (iI (u : Int))) M2 := hA.trans (hA2.mono (fun b j q => by omega))
      exact ⟨_, rfl, hC0.upd hA02 (fun b j q => by omega) (fun j => (hA02 _ _ (fun q => by omega)).2.2) hR2 hOK (if_neg (by decide)), pcs _ hA02⟩
  by_cases c0 : pD T u = 0
  · have hx := g1.2.2 (by omega)
    rw [if_pos (ceqT c0), hS.g63_0, obs, iL2, iI_add, hS.r64 (by omega) (by omega), obs, iL1, iI_add, hS.r64 (by omega) (by omega), obs, show ((u : Int) * 6 + 2).toNat = 6 * u + 2 by omega, show ((u : Int) * 6 + 1).toNat = 6 * u + 1 by omega, q64, q64, r2, r3, iL8, iI_mul, iI_add]
    exact b68 _ (fun _ => rfl)
  · rw [if_neg (by rw [xeq (by omega) (by omega) (by omega) (by omega)]; exact c0)]
    by_cases c1 : pD T u = 1
    · rw [if_pos (ceqT c1), hS.g63_0, obs, iL2, iI_add, hS.r64 (by omega) (by omega), obs, iL1, iI_add, hS.r64 (by omega) (by omega), obs, show ((u : Int) * 6 + 2).toNat = 6 * u + 2 by omega, show ((u : Int) * 6 + 1).toNat = 6 * u + 1 by omega, q64, q64, r2, r3, iL8, iI_mul, iI_add]
      exact b68 _ (fun _ => rfl)
    · rw [if_neg (by rw [xeq (by omega) (by omega) (by omega) (by omega)]; exact c1)]
      exact b68 0 (fun q => by omega)
theorem c_undo (h : Inv S M B) (hn : 100000 ≤ n) : Ag1 S B M (fun M => F_NC_undo n E S (B + 0) M) (fun M => F_Mo_undo n E S (B + 105) M) := by
  obtain ⟨hS, hZ, ⟨N, Ls, hC, hM, hh, hP⟩, _, _, hT, _⟩ := id h
  obtain ⟨T, pc, pm, pj⟩ := hP.out
  have hN := hC.2.1
  have hu16 := pj.1
  by_cases cu : pU T = 0
  · refine Ag1.ans (n := n) (E := E) h (v := -3) (Or.inr (Or.inr (Or.inr (Or.inl rfl)))) (M1 := M) ?_ zAg.rfl' (fun M2 hA2 => ?_)
    · show F_NC_undo n E S (B + 0) M = _
      unfold F_NC_undo F_Pt_takeBack
      rw [hS.g0_5, obs, hS.g0_0, obs, hS.ck63, obs, hS.i63, obs, pc.1, cu, iL0, if_neg (by decide), obs, be_]
      rfl
    · have hA3 : zAg (fun b j => rfX B b j ∨ (b = B + 105 ∧ j = 0)) M (setI M2 (B + 105) 0 (iI 0)) := (hA2.mono (fun _ _ q => Or.inl q)).setI (Or.inr ⟨rfl, rfl⟩)
      refine ⟨setI M2 (B + 105) 0 (iI 0), ?_, zAg.rfl'.setI ?_, Now.ag ⟨N, Ls, hC, hM, hh, hP⟩ hA3 (fun b j q => by unfold rfX at q; omega), hT.ag hA3 (fun q => by unfold rfX at q; omega) (fun j q => by unfold rfX at q; omega) (fun q => by unfold rfX at q; omega) (fun j q => by unfold rfX at q; omega), Msc.of h hA3 (fun j _ _ q => by unfold rfX at q; omega) (fun j _ q => by unfold rfX at q; omega)⟩
      · show F_Mo_undo n E S (B + 105) M2 = _
        unfold F_Mo_undo
        rw [iL0, hS.p105, obs, hS.i105, obs, mI_i (by decide), (hA2 _ _ (fun q => by unfold rfX at q; omega)).1, pm.1, cu, if_pos (by decide), be_]
        rfl
      · unfold gM gX; omega
  · have hu : 0 < pU T := by omega
    obtain ⟨M1, e1, hC1, pc1, hA1⟩ := s_takeBack (n := n) (E := E) hS hC pc pj (by omega) hu
    obtain ⟨u, hu'⟩ : ∃ u, pU T = u + 1 := ⟨pU T - 1, by omega⟩
    rw [hu', Nat.add_sub_cancel] at e1 hC1
    obtain ⟨g1, ⟨g2, g3⟩, g4⟩ := pj.2 u (by omega)
    rw [if_pos (by omega)] at g4
    refine Ag1.ans (n := n) (E := E) h (v := pD T u) (Or.inl (by omega)) (M1 := M1) ?_ (hA1.mono (fun b j q => df_gC q)) (fun M2 hA2 => ?_)
    · show F_NC_undo n E S (B + 0) M = _
      unfold F_NC_undo
      rw [hS.g0_5, obs, hS.g0_0, obs, hS.ck63, obs, e1, obs, be_]
    · have hA02 : zAg (fun b j => dfX B b j ∨ rfX B b j) M M2 := (hA1.mono (fun _ _ q => Or.inl q)).trans (hA2.mono (fun _ _ q => Or.inr q))
      have hA3 : zAg (fun b j => b = B + 105 ∧ (j = 0 ∨ j = 8)) M2 (setI (setI M2 (B + 105) 0 (iI 0)) (B + 105) 8 (iI (u : Int))) := (zAg.rfl'.setI ⟨rfl, Or.inl rfl⟩).setI ⟨rfl, Or.inr rfl⟩
      have hA03 : zAg (fun b j => (dfX B b j ∨ rfX B b j) ∨ (b = B + 105 ∧ (j = 0 ∨ j = 8))) M (setI (setI M2 (B + 105) 0 (iI 0)) (B + 105) 8 (iI (u : Int))) := (hA02.mono (fun _ _ q => Or.inl q)).trans (hA3.mono (fun _ _ q => Or.inr q))
      obtain ⟨M4, e4, h4, hA4⟩ := s_putBack (n := n) (E := E) (M := setI (setI M2 (B + 105) 0 (iI 0)) (B + 105) 8 (iI (u : Int))) (k := u) hS (by omega) (by omega)
      have hA24 : zAg (fun b j => (b = B + 105 ∧ (j = 0 ∨ j = 8)) ∨ (b = B + 107 ∧ 4 ≤ j ∧ j < 54)) M2 M4 := (hA3.mono (fun _ _ q => Or.inl q)).trans (hA4.mono (fun _ _ q => Or.inr q))
      have hA04 : zAg (fun b j => (dfX B b j ∨ rfX B b j) ∨ ((b = B + 105 ∧ (j = 0 ∨ j = 8)) ∨ (b = B + 107 ∧ 4 ≤ j ∧ j < 54))) M M4 := (hA02.mono (fun _ _ q => Or.inl q)).trans (hA24.mono (fun _ _ q => Or.inr q))
      have hA14 : zAg (fun b j => rfX B b j ∨ ((b = B + 105 ∧ (j = 0 ∨ j = 8)) ∨ (b = B + 107 ∧ 4 ≤ j ∧ j < 54))) M1 M4 := (hA2.mono (fun _ _ q => Or.inl q)).trans (hA24.mono (fun _ _ q => Or.inr q))
      have hOK := hC1.2.1
      have eq107 : ∀ i, (i < 4 ∨ 54 ≤ i) → mI M4 (B + 107) i = mI M (B + 107) i := fun i hi => (hA04 _ _ (fun q => by unfold dfX cScr rfX at q; omega)).1
      have hR4 : RwN (mI M4 (B + 107)) (bkN (pD T u) (pA T u) (pB T u) (pG T u) N) := by
        refine hM.2.1.put (fun i _ hi => eq107 i hi) (fun k hk => ?_) bkN_rs
        rw [h4 k hk, (hA03 _ _ (fun q => by unfold dfX cScr rfX at q; omega)).1, (pm.2 u (by omega)).2 k hk, snap_cg g4 hk]
      have pm4 : PM M4 B (pop T) := by
        refine ⟨?_, fun i hi => ?_⟩
        · rw [(hA4 _ _ (fun q => by omega)).1, mI_s]; show _ = iI ((pU T - 1 : Nat) : Int); rw [hu', Nat.add_sub_cancel]
        · have hi' : i < pU T - 1 := hi
          obtain ⟨x1, x2⟩ := pm.2 i (by omega)
          exact ⟨by rw [(hA04 _ _ (fun q => by unfold dfX cScr rfX at q; omega)).1]; exact x1, fun k hk => by rw [(hA04 _ _ (fun q => by unfold dfX cScr rfX at q; omega)).1]; exact x2 k hk⟩
      have h9 : bkN (pD T u) (pA T u) (pB T u) (pG T u) N 9 0 ≤ 999 := by rw [g4.2.2.2.2.2.2.1 0 (by decide)]; exact g3
      refine ⟨M4, ?_, hA24.mono (fun b j q => by unfold gM gX; omega), ⟨_, Ls, hC1.ag hA14 (fun b j q => by unfold rfX at q; omega), hM.upd ?_ hR4 hOK bkN_rs.2.2.2.2.2.2.1 (fun i hi => eq107 i (by omega)), h9, PastR.mk (pc1.ag hA14 (fun q => by unfold rfX at q; omega) (fun j q => by unfold rfX at q; omega)) pm4 (pj.pop hu (by rw [hu', Nat.add_sub_cancel]; exact g4.symm))⟩, hT.ag hA04 (fun q => by unfold dfX cScr rfX at q; omega) (fun j q => by unfold dfX cScr rfX at q; omega) (fun q => by unfold dfX cScr rfX at q; omega) (fun j q => by unfold dfX cScr rfX at q; omega), Msc.of h hA04 (fun j _ _ q => by unfold dfX cScr rfX at q; omega) (fun j _ q => by unfold dfX cScr rfX at q; omega)⟩
      · show F_Mo_undo n E S (B + 105) M2 = _
        unfold F_Mo_undo
        have e8 : mI (setI M2 (B + 105) 0 (iI 0)) (B + 105) 8 = iI ((u + 1 : Nat) : Int) := by rw [mI_i (by decide), (hA02 _ _ (fun q => by unfold dfX cScr rfX at q; omega)).1, pm.1, hu']
        have e84 : mI M4 (B + 105) 8 = iI (u : Int) := by rw [(hA4 _ _ (fun q => by omega)).1, mI_s]
        have es : mI M4 (B + 111) u = iI (pD T u) := by rw [(hA04 _ _ (fun q => by unfold dfX cScr rfX at q; omega)).1]; exact (pm.2 u (by omega)).1
        rw [iL0, hS.p105, obs, hS.i105, obs, e8, if_neg (by rw [xeq (by omega) (by omega) (by omega) (by omega)]; omega), obs, iL1, iI_sub, show ((u + 1 : Nat) : Int) - 1 = (u : Int) by omega, hS.p105, obs, hS.i105, obs, mI_s, e4, obs, hS.g105_7, obs, hS.i105, obs, e84, hS.r111 (by omega) (by omega), obs, Int.toNat_natCast, es, be_]
      · rw [(hA04 _ _ (fun q => by unfold dfX cScr rfX at q; omega)).1]; exact hM.1
end
