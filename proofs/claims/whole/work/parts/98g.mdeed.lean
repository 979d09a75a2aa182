/-! THE DEEDS of the model -/
theorem xorb : ∀ (m : Fin 256) (h : Fin 8), iI (m.val : Int) ^^^ iI (2 ^ h.val) = iI ((m.val : Int) + (1 - 2 * ((m.val : Int) / 2 ^ h.val % 2)) * 2 ^ h.val) := by decide +kernel
theorem andb : ∀ (m : Fin 256) (h : Fin 8), iI (m.val : Int) &&& (iI (2 ^ h.val) ^^^ iI (-1)) = iI ((m.val : Int) - ((m.val : Int) / 2 ^ h.val % 2) * 2 ^ h.val) := by decide +kernel
def cN1 (N : Nt) (b : Nat) (c : Int) : Nt := nset N 4 b (N 4 b + c)
def cSt (N : Nt) (Ls : Nat → Lw) (b : Nat) (c : Int) : Nt := nset (cN1 N b c) 4 b (max 0 (N 4 b + c - leakV (cN1 N b c) Ls b))
section
variable {n : Nat} {E : zE} {S : zS} {M : zH} {B : Nat} {N : Nt} {Ls : Nat → Lw}
theorem bmask_set {r h : Nat} (hh : h < 8) (v : Int) : bmask (nset N 1 (8 * r + h) v) r = bmask N r + (v - N 1 (8 * r + h)) * 2 ^ h := by
  have e : ∀ i, nset N 1 (8 * r + h) v 1 (8 * r + i) = if i = h then v else N 1 (8 * r + i) := fun i => by
    by_cases c : i = h
    · rw [if_pos c, c, nset_s]
    · rw [if_neg c, nset_k (by omega)]
  have e0 := e 0
  rw [Nat.add_zero] at e0
  unfold bmask
  rw [e0, e 1, e 2, e 3, e 4, e 5, e 6, e 7]
  rcases (show h = 0 ∨ h = 1 ∨ h = 2 ∨ h = 3 ∨ h = 4 ∨ h = 5 ∨ h = 6 ∨ h = 7 by omega) with rfl | rfl | rfl | rfl | rfl | rfl | rfl | rfl <;> simp <;> omega
theorem bmask_ne {r r' h : Nat} (hh : h < 8) (hr : r' ≠ r) (v : Int) : bmask (nset N 1 (8 * r + h) v) r' = bmask N r' := by
  unfold bmask
  rw [nset_k (by omega), nset_k (by omega), nset_k (by omega), nset_k (by omega), nset_k (by omega), nset_k (by omega), nset_k (by omega), nset_k (by omega)]
theorem RwN.s_blk {q : Nat} (hR : RwN (mI M q) N) {r h : Nat} (hr : r < 4) (hh : h < 8) (v : Int) : RwN (mI (setI M q (44 + r) (iI (bmask N r + (v - N 1 (8 * r + h)) * 2 ^ h))) q) (nset N 1 (8 * r + h) v) := by
  obtain ⟨⟨h1, h2, h3, h4⟩, h5, h6, h7, h8, h9⟩ := hR
  refine ⟨⟨?_, ?_, ?_, ?_⟩, fun k hk => ⟨?_, ?_, ?_⟩, fun k hk => ?_, fun k hk => ⟨?_, ?_, ?_⟩, fun k hk => ?_, fun k hk => ⟨?_, ?_⟩⟩
  · rw [mI_i (by omega)]; exact h1
  · rw [mI_i (by omega)]; exact h2
  · rw [mI_i (by omega)]; exact h3
  · rw [mI_i (by omega)]; exact h4
  · rw [mI_i (by omega)]; exact (h5 k hk).1
  · rw [mI_i (by omega)]; exact (h5 k hk).2.1
  · by_cases c : k = r
    · rw [c, mI_s, bmask_set hh]
    · rw [mI_i (by omega), bmask_ne hh c]; exact (h5 k hk).2.2
  · rw [mI_i (by omega)]; exact h6 k hk
  · rw [mI_i (by omega)]; exact (h7 k hk).1
  · rw [mI_i (by omega)]; exact (h7 k hk).2.1
  · rw [mI_i (by omega)]; exact (h7 k hk).2.2
  · rw [mI_i (by omega)]; exact h8 k hk
  · rw [mI_i (by omega)]; exact (h9 k hk).1
  · rw [mI_i (by omega)]; exact (h9 k hk).2
/-- what is set below 80 in the row -/
theorem MN.st {N' : Nt} (hM : MN M B N Ls) {i : Nat} {v : Int32} (hi : i < 80) (hR : RwN (mI (setI M (B + 107) i v) (B + 107)) N') (hN : NdOK N') (e : N' 13 0 = N 13 0) : MN (setI M (B + 107) i v) B N' Ls :=
  hM.upd (by rw [mI_a (by omega)]; exact hM.1) hR hN e (fun j hj => mI_i (by omega))
def caX (B : Nat) : Nat → Nat → Prop := fun b j => mScr B b j ∨ (b = B + 107 ∧ 48 ≤ j ∧ j < 51)
theorem s_mcatch (hS : ShOK S B) (hM : MN M B N Ls) (hn : 600 ≤ n) {b : Nat} (hb : b < 3) {f : Int} (hf0 : 0 ≤ f) (hf : f ≤ 400) : ∃ M', F_Mo_catchIn n E S (B + 105) (iI (b : Int)) (iI f) M = some (iI (min (N 3 b - N 4 b) f), M') ∧ MN M' B (cSt N Ls b (min (N 3 b - N 4 b) f)) Ls ∧ zAg (caX B) M M' := by
  have hN := hM.2.2.1
  have hl := hN.lev hb
  have hz := hN.size hb
  have main : ∀ c : Int, 0 ≤ c → N 4 b + c ≤ N 3 b → ∃ M', F_Mo_catchIn_b30 n E S (B + 105) (iI (b : Int)) (iI c) M = some (iI c, M') ∧ MN M' B (cSt N Ls b c) Ls ∧ zAg (caX B) M M' := fun c c0 c1 => by
    have hN1 : NdOK (cN1 N b c) := hN.s4 (by omega) (by omega)
    have hM1 : MN (setI M (B + 107) (48 + b) (iI (N 4 b + c))) B (cN1 N b c) Ls := hM.st (by omega) (hM.2.1.s_lev hb (N 4 b + c)) hN1 rfl
    obtain ⟨M2, e2, hA2⟩ := s_mleaks (n := n) (E := E) (b := (b : Int)) hS hM1 hn (by omega) (by omega)
    have hM2 := hM1.scr hA2
    have hlk := leakV_b (N := cN1 N b c) (Ls := Ls) (b := (b : Int))
    have hN3 : NdOK (cSt N Ls b c) := hN1.s4 (by omega) (show _ ≤ N 3 b by omega)
    have hM3 : MN (setI M2 (B + 107) (48 + b) (iI (max 0 (N 4 b + c - leakV (cN1 N b c) Ls b)))) B (cSt N Ls b c) Ls := hM2.st (by omega) (hM2.2.1.s_lev hb _) hN3 rfl
    refine ⟨_, ?_, hM3, ?_⟩
    · unfold F_Mo_catchIn_b30
      have e48 : mI M (B + 107) (48 + (b : Int)).toNat = iI (N 4 b) := hM.2.1.lev (by omega) (by omega)
      rw [hS.g105_3, obs, show (48 : Int32) = iI 48 by decide, iI_add, hS.r107 (by omega) (by omega), obs, e48, iI_add, hS.w107 (by omega) (by omega), obs, show (48 + (b : Int)).toNat = 48 + b by omega, hS.r107 (by omega) (by omega), obs, show (48 + (b : Int)).toNat = 48 + b by omega, mI_s, e2, obs, iI_sub, xJ (by omega) (by omega), iL0, show (99 : Int32) = iI 99 by decide, s_mwithin (by omega) (by omega) (by omega) (by omega) (by omega), obs, hS.w107 (by omega) (by omega), obs, show (48 + (b : Int)).toNat = 48 + b by omega, show min (N 4 b + c - leakV (cN1 N b c) Ls b) 99 = N 4 b + c - leakV (cN1 N b c) Ls b by omega]
    · refine ((zAg.rfl'.setI ?_).trans (hA2.mono (fun b j q => Or.inl q))).setI ?_ <;> (right; exact ⟨rfl, by omega, by omega⟩)
  unfold F_Mo_catchIn
  rw [hS.g105_3, obs, show (54 : Int32) = iI 54 by decide, iI_add, hS.r107 (by omega) (by omega), obs, show (48 : Int32) = iI 48 by decide, iI_add, hS.r107 (by omega) (by omega), obs, hM.2.1.siz (by omega) (by omega), hM.2.1.lev (by omega) (by omega), Int.toNat_natCast, iI_sub]
  by_cases c : N 3 b - N 4 b ≤ f
  · rw [if_pos (cleT (by omega) (by omega) (by omega)), Int.min_eq_left c]; exact main _ (by omega) (by omega)
  · rw [if_neg (cleF (by omega) (by omega) (by omega)), Int.min_eq_right (by omega)]; exact main _ (by omega) (by omega)
def paX (B : Nat) : Nat → Nat → Prop := fun b j => fScr B b j ∨ (b = B + 107 ∧ 4 ≤ j ∧ j < 54)
theorem s_passIt (hS : ShOK S B) (hM : MN M B N Ls) (hn : 600 ≤ n) (hh : N 9 0 < 2000) : ∃ M', F_Mo_passIt n E S (B + 105) M = some (iI (pasV N Ls), M') ∧ MN M' B (pasN N Ls) Ls ∧ zAg (paX B) M M' := by
  have hN := hM.2.2.1
  have hb := hN.nb
  obtain ⟨M0, e0, hA0, hf0⟩ := s_layFlow (n := n) (E := E) hS hM hn
  have hM0 := hM.fscr hA0
  unfold F_Mo_passIt
  rw [hS.ck105, obs, e0, obs]
  unfold F_Mo_passIt_b8
  obtain ⟨s', m, ⟨M1, hs', hM1, hA1⟩, e⟩ := zfix_inv (F := fun r8 s => F_Mo_passIt_L8 n E S r8 s.1 s.2.1 s.2.2.1 s.2.2.2) (fun i s => ∃ M1, s = (B + 105, iI (pIt N Ls i).2, iI (i : Int), M1) ∧ MN M1 B (pIt N Ls i).1 Ls ∧ zAg (caX B) M0 M1) (N 11 0).toNat (fun i hi s hI' => by
    obtain ⟨M1, rfl, hM1, hA1⟩ := hI'
    have hN1 := hM1.2.2.1
    have e11 : (pIt N Ls i).1 11 0 = N 11 0 := pIt_c i 11 0 (by decide)
    have e5 : (pIt N Ls i).1 5 i = N 5 i := pIt_c i 5 i (by decide)
    have h2 := (pIt_ok (Ls := Ls) hN i (by omega)).2
    have efl := pIt_f (N := N) (Ls := Ls) i (N 5 i)
    have ess : pIt N Ls (i + 1) = (pStep (pIt N Ls i).1 Ls i, (pIt N Ls i).2 + pMore (pIt N Ls i).1 Ls i) := rfl
    rw [ess]
    generalize pIt N Ls i = PP at *
    obtain ⟨Q, v⟩ := PP
    dsimp only at *
    have hf := hN.fie (k := i) (by omega)
    have hfl := flowV_b (Ls := Ls) (f := N 5 i) hN
    obtain ⟨M2, e2, hM2, hA2⟩ := s_mcatch (n := n) (E := E) (f := flowV N Ls (N 5 i)) hS hM1 hn (b := i) (by omega) hfl.1 (by omega)
    have em : min (Q 3 i - Q 4 i) (flowV N Ls (N 5 i)) = pMore Q Ls i := by unfold pMore; rw [e5, efl]
    rw [em] at e2 hM2
    refine ⟨(B + 105, iI (v + pMore Q Ls i), iI ((i + 1 : Nat) : Int), M2), ⟨M2, rfl, hM2, hA1.trans hA2⟩, fun rec => ?_⟩
    show F_Mo_passIt_L8 n E S rec (B + 105) (iI v) (iI i) M1 = _
    unfold F_Mo_passIt_L8
    have eff : mI M1 (B + 126) (N 5 i).toNat = iI (flowV N Ls (N 5 i)) := by
      rw [(hA1 _ _ (fun q => by unfold caX mScr at q; omega)).1, hf0 _ (by omega), show (((N 5 i).toNat : Nat) : Int) = N 5 i by omega]
    rw [hS.g105_3, obs, iL0, hS.r107 (by omega) (by omega), obs, tn0, hM1.2.1.nb, e11, if_neg (by rw [xle (by omega) (by omega) (by omega) (by omega)]; omega), hS.g105_41, obs, show (51 : Int32) = iI 51 by decide, iI_add, hS.r107 (by omega) (by omega), obs, hM1.2.1.fie (by omega) (by omega), Int.toNat_natCast, e5, hS.r126 hf.1 hf.2, obs, eff, e2, obs, iI_add, iL1, iI_add]
    rfl) n 0 (B + 105, 0, 0, M0) (by omega) (by omega) ⟨M0, rfl, hM0, zAg.rfl'⟩
  rw [e, hs']
  have e11 : (pIt N Ls (N 11 0).toNat).1 11 0 = N 11 0 := pIt_c _ 11 0 (by decide)
  obtain ⟨M2, e2, hR2, hA2⟩ := s_mturnAll (n := n) (E := E) hS hM1.2.1 hM1.2.2.1 hn
  refine ⟨M2, ?_, hM1.upd (by rw [(hA2 _ _ (fun q => by unfold tuX at q; omega)).1]; exact hM1.1) hR2 (pasN_ok hN hh) rfl (fun i hi => (hA2 _ _ (fun q => by unfold tuX at q; omega)).1), ?_⟩
  · show F_Mo_passIt_L8 n E S _ (B + 105) (iI (pIt N Ls (N 11 0).toNat).2) (iI ((N 11 0).toNat : Int)) M1 = _
    unfold F_Mo_passIt_L8
    rw [hS.g105_3, obs, iL0, hS.r107 (by omega) (by omega), obs, tn0, hM1.2.1.nb, e11, if_pos (by rw [xle (by omega) (by omega) (by omega) (by omega)]; omega), e2, obs]
    rfl
  · refine ((hA0.mono (fun b j q => Or.inl q)).trans (hA1.mono (fun b j q => ?_))).trans (hA2.mono (fun b j q => ?_))
    · unfold caX at q
      rcases q with q | q
      · exact Or.inl (Or.inl q)
      · right; omega
    · unfold tuX at q; right; omega
/-- what deeds of the model change -/
def mdX (B : Nat) : Nat → Nat → Prop := fun b j => paX B b j ∨ rmX B b j
theorem rm_md {M' : zH} (h : zAg (rmX B) M M') : zAg (mdX B) M M' := h.mono (fun _ _ q => Or.inr q)
theorem ms_md {M' : zH} (h : zAg (mScr B) M M') : zAg (mdX B) M M' := h.mono (fun _ _ q => Or.inl (Or.inl (Or.inl q)))
theorem MN.rm {M' : zH} (hM : MN M B N Ls) (h : zAg (rmX B) M M') : MN M' B N Ls := hM.ag h (fun j q => by unfold rmX at q; omega) (fun q => by unfold rmX at q; omega)
theorem PM.rw {T : Pst} (h : PM M B T) (hu : pU T ≤ 16) {i : Nat} {v : Int32} : PM (setI M (B + 107) i v) B T := h.ag (X := fun b j => b = B + 107) hu (zAg.rfl'.setI rfl) (fun q => by omega) (fun j _ q => by omega) (fun j _ q => by omega)
theorem psh_u {T : Pst} {d a b : Int} {g : Nat → Int} (hu : pU T ≤ 16) : pU (psh T d a b g N) ≤ 16 := by
  show pAt T + 1 ≤ 16
  have := pAt_u hu
  omega
theorem pfA_0 {k a b : Int} (h : rfs N Ls k a b = 0) : pfA N Ls k a b = dAns N Ls k a b := if_pos h
theorem pfN_0 {k a b : Int} (h : rfs N Ls k a b = 0) : pfN N Ls k a b = dN N Ls k a b := if_pos h
theorem pfT_0 {T : Pst} {k a b : Int} (h : rfs N Ls k a b = 0) : pfT N Ls T k a b = psh T k a b (dG N k) N := if_pos h
theorem mno {M0 : zH} {T : Pst} {k a b c : Int} (hM : MN M B N Ls) (hP : PM M B T) (e : rfs N Ls k a b = c) (hc : c ≠ 0) (hA : zAg (mdX B) M0 M) : ∃ M', (some (iI c, M) : Option (Int32 × zH)) = some (iI (pfA N Ls k a b), M') ∧ MN M' B (pfN N Ls k a b) Ls ∧ PM M' B (pfT N Ls T k a b) ∧ zAg (mdX B) M0 M' := by
  have h0 : ¬ rfs N Ls k a b = 0 := by rw [e]; exact hc
  have e1 : pfA N Ls k a b = c := (if_neg h0).trans e
  have e2 : pfN N Ls k a b = N := if_neg h0
  have e3 : pfT N Ls T k a b = T := if_neg h0
  rw [e1, e2, e3]
  exact ⟨M, rfl, hM, hP, hA⟩
theorem s_mblock (hS : ShOK S B) (hM : MN M B N Ls) {T : Pst} (hP : PM M B T) (hu : pU T ≤ 16) (hn : 1000 ≤ n) {a b : Int} (ha : zR a) (hb : zR b) : ∃ M', F_Mo_blockNow n E S (B + 105) (iI a) (iI b) M = some (iI (pfA N Ls 0 a b), M') ∧ MN M' B (pfN N Ls 0 a b) Ls ∧ PM M' B (pfT N Ls T 0 a b) ∧ zAg (mdX B) M M' := by
  have hN := hM.2.2.1
  unfold F_Mo_blockNow
  have er : rfs N Ls 0 a b = if (0 ≤ a ∧ a ≤ 7) ∧ (0 ≤ b ∧ b ≤ 3) then 0 else -1 := by unfold rfs; rw [if_pos rfl]
  rw [s_mRing hb, obs]
  by_cases c2 : 0 ≤ b ∧ b ≤ 3
  · rw [if_pos (decide_eq_true c2), s_mField ha, obs]
    by_cases c1 : 0 ≤ a ∧ a ≤ 7
    · obtain ⟨M1, e1, hP1, hA1⟩ := s_remember (n := n) (E := E) (N := N) (d := 0) (a := a) (b := b) (g := dG N 0) hS hn hP hu hM.2.1
      have hM1 := hM.rm hA1
      have hi : (b * 8 + a).toNat = 8 * b.toNat + a.toNat := by omega
      have hk := hN.blk (k := (b * 8 + a).toNat) (by omega)
      have hbm := bmask_b hN (r := b.toNat) (by omega)
      have hbit := bmask_bit hN (r := b.toNat) (h := a.toNat) (by omega) (by omega)
      have R1 := hM1.2.1.s_blk (r := b.toNat) (h := a.toNat) (by omega) (by omega) (1 - N 1 (8 * b.toNat + a.toNat))
      have hN' : NdOK (nset N 1 (8 * b.toNat + a.toNat) (1 - N 1 (8 * b.toNat + a.toNat))) := hN.s1 (by rw [← hi]; omega)
      have xo := xorb ⟨(bmask N b.toNat).toNat, by omega⟩ ⟨a.toNat, by omega⟩
      dsimp only at xo
      rw [show (((bmask N b.toNat).toNat : Nat) : Int) = bmask N b.toNat by omega, hbit] at xo
      have hb2 := bmask_b hN' (r := b.toNat) (by omega)
      have hbit2 := bmask_bit hN' (r := b.toNat) (h := a.toNat) (by omega) (by omega)
      rw [bmask_set (by omega)] at hb2 hbit2
      rw [nset_s] at hbit2
      have ex : bmask N b.toNat + (1 - N 1 (8 * b.toNat + a.toNat) - N 1 (8 * b.toNat + a.toNat)) * 2 ^ a.toNat = bmask N b.toNat + (1 - 2 * N 1 (8 * b.toNat + a.toNat)) * 2 ^ a.toNat := by
        rw [show 1 - N 1 (8 * b.toNat + a.toNat) - N 1 (8 * b.toNat + a.toNat) = 1 - 2 * N 1 (8 * b.toNat + a.toNat) by omega]
      rw [ex] at R1 hb2 hbit2
      have er0 : rfs N Ls 0 a b = 0 := by rw [er, if_pos ⟨c1, c2⟩]
      rw [pfA_0 er0, pfN_0 er0, pfT_0 er0, if_pos (decide_eq_true c1), hS.ck105, obs, iL0, e1, obs, hS.g105_3, obs, show (44 : Int32) = iI 44 by decide, iI_add, hS.r107 (by omega) (by omega), obs, hM1.2.1.blk (by omega) (by omega), iL1, iL31, xshl c1.1 (by omega), Int.one_mul, xo, hS.w107 (by omega) (by omega), obs, hS.r107 (by omega) (by omega), obs, mI_s, xshr c1.1 (by omega) (by omega) (by omega), xand1, hbit2, show (44 + b).toNat = 44 + b.toNat by omega]
      unfold dAns dN
      rw [if_pos rfl, if_pos rfl, hi]
      exact ⟨_, rfl, hM1.st (by omega) R1 hN' rfl, hP1.rw (psh_u hu), (rm_md hA1).setI (Or.inl (Or.inr ⟨rfl, by omega, by omega⟩))⟩
    · rw [if_neg (fun q => c1 (of_decide_eq_true q))]
      exact mno (c := -1) hM hP (by rw [er, if_neg (fun q => c1 q.1)]) (by decide) zAg.rfl'
  · rw [if_neg (fun q => c2 (of_decide_eq_true q))]
    exact mno (c := -1) hM hP (by rw [er, if_neg (fun q => c2 q.2)]) (by decide) zAg.rfl'
theorem s_mream (hS : ShOK S B) (hM : MN M B N Ls) {T : Pst} (hP : PM M B T) (hu : pU T ≤ 16) (hn : 1000 ≤ n) {a b : Int} (ha : zR a) (hb : zR b) : ∃ M', F_Mo_reamNow n E S (B + 105) (iI a) (iI b) M = some (iI (pfA N Ls 1 a b), M') ∧ MN M' B (pfN N Ls 1 a b) Ls ∧ PM M' B (pfT N Ls T 1 a b) ∧ zAg (mdX B) M M' := by
  have hN := hM.2.2.1
  unfold F_Mo_reamNow
  have er : rfs N Ls 1 a b = if (0 ≤ a ∧ a ≤ 7) ∧ (0 ≤ b ∧ b ≤ 3) then (if N 0 (b * 8 + a).toNat < 9 then 0 else -3) else -1 := by unfold rfs; rw [if_neg (by decide), if_pos rfl]
  rw [s_mRing hb, obs]
  by_cases c2 : 0 ≤ b ∧ b ≤ 3
  · rw [if_pos (decide_eq_true c2), s_mField ha, obs]
    by_cases c1 : 0 ≤ a ∧ a ≤ 7
    · have hk := hN.bore (k := (b * 8 + a).toNat) (by omega)
      rw [if_pos (decide_eq_true c1), hS.g105_3, obs, show (12 : Int32) = iI 12 by decide, iL8, iI_mul, iI_add, iI_add, hS.r107 (by omega) (by omega), obs, hM.2.1.bore (by omega) (by omega) (by omega) (by omega), iL9]
      by_cases c3 : N 0 (b * 8 + a).toNat < 9
      · obtain ⟨M1, e1, hP1, hA1⟩ := s_remember (n := n) (E := E) (N := N) (d := 1) (a := a) (b := b) (g := dG N 1) hS hn hP hu hM.2.1
        have hM1 := hM.rm hA1
        have R1 := hM1.2.1.s_bore (k := (b * 8 + a).toNat) (by omega) (N 0 (b * 8 + a).toNat + 1)
        have er0 : rfs N Ls 1 a b = 0 := by rw [er, if_pos ⟨c1, c2⟩, if_pos c3]
        rw [pfA_0 er0, pfN_0 er0, pfT_0 er0, if_neg (ceqF (by omega) (by omega) (by omega) (by omega) (by omega)), iL1, e1, obs, hS.r107 (by omega) (by omega), obs, hM1.2.1.bore (by omega) (by omega) (by omega) (by omega), iI_add, hS.w107 (by omega) (by omega), obs, hS.r107 (by omega) (by omega), obs, mI_s, show (12 + 8 * b + a).toNat = 12 + (b * 8 + a).toNat by omega]
        unfold dAns dN
        rw [if_neg (by decide), if_pos rfl, if_neg (by decide), if_pos rfl]
        exact ⟨_, rfl, hM1.st (by omega) R1 (hN.s0 (by omega) (by omega)) rfl, hP1.rw (psh_u hu), (rm_md hA1).setI (Or.inl (Or.inr ⟨rfl, by omega, by omega⟩))⟩
      · rw [if_pos (ceqT (by omega))]
        exact mno (c := -3) hM hP (by rw [er, if_pos ⟨c1, c2⟩, if_neg c3]) (by decide) zAg.rfl'
    · rw [if_neg (fun q => c1 (of_decide_eq_true q))]
      exact mno (c := -1) hM hP (by rw [er, if_neg (fun q => c1 q.1)]) (by decide) zAg.rfl'
  · rw [if_neg (fun q => c2 (of_decide_eq_true q))]
    exact mno (c := -1) hM hP (by rw [er, if_neg (fun q => c2 q.2)]) (by decide) zAg.rfl'
theorem s_mset (hS : ShOK S B) (hM : MN M B N Ls) {T : Pst} (hP : PM M B T) (hu : pU T ≤ 16) (hn : 1000 ≤ n) {a b : Int} (ha : zR a) (hb : zR b) : ∃ M', F_Mo_setNow n E S (B + 105) (iI a) (iI b) M = some (iI (pfA N Ls 2 a b), M') ∧ MN M' B (pfN N Ls 2 a b) Ls ∧ PM M' B (pfT N Ls T 2 a b) ∧ zAg (mdX B) M M' := by
  have hN := hM.2.2.1
  have hnb := hN.nb
  unfold F_Mo_setNow
  have er : rfs N Ls 2 a b = if 0 ≤ b ∧ b ≤ 7 then (if 0 ≤ a ∧ a ≤ N 11 0 - 1 then (if bAt N b = -1 ∧ ¬ barV N Ls a b = 1 then 0 else -3) else -2) else -1 := by unfold rfs; rw [if_neg (by decide), if_neg (by decide), if_pos rfl]
  rw [s_mField hb, obs]
  by_cases c2 : 0 ≤ b ∧ b ≤ 7
  · rw [if_pos (decide_eq_true c2), hS.ck105, obs, s_mBucket hS hM.2.1 hN ha, obs]
    by_cases c1 : 0 ≤ a ∧ a ≤ N 11 0 - 1
    · obtain ⟨v, ev, v1, v2, v3⟩ := s_mbAt (n := n) (E := E) hS hM.2.1 hN (by omega) hb
      rw [if_pos (decide_eq_true c1), ev, obs, iLm1]
      by_cases c3 : bAt N b = -1
      · obtain ⟨M0, e0, hA0⟩ := s_mbarred (n := n) (E := E) hS hM (by omega) c1.1 (show a < 3 by omega) c2.1 (show b < 8 by omega)
        have hM0 := hM.scr hA0
        have hP0 : PM M0 B T := hP.ag hu hA0 (fun q => by unfold mScr at q; omega) (fun j _ q => by unfold mScr at q; omega) (fun j _ q => by unfold mScr at q; omega)
        rw [if_pos (ceqT (v3.mpr c3)), e0, obs]
        by_cases c4 : barV N Ls a b = 1
        · rw [if_pos (decide_eq_true c4)]
          exact mno (c := -3) hM0 hP0 (by rw [er, if_pos c2, if_pos c1, if_neg (fun q => q.2 c4)]) (by decide) (ms_md hA0)
        · obtain ⟨M1, e1, hP1, hA1⟩ := s_remember (n := n) (E := E) (N := N) (d := 2) (a := a) (b := b) (g := dG N 2) hS hn hP0 hu hM0.2.1
          have hM1 := hM0.rm hA1
          have R1 := hM1.2.1.s_fie (k := a.toNat) (by omega) b
          have er0 : rfs N Ls 2 a b = 0 := by rw [er, if_pos c2, if_pos c1, if_pos ⟨c3, c4⟩]
          rw [pfA_0 er0, pfN_0 er0, pfT_0 er0, if_neg (fun q => c4 (of_decide_eq_true q)), iL2, e1, obs, hS.g105_3, obs, show (51 : Int32) = iI 51 by decide, iI_add, hS.r107 (by omega) (by omega), obs, hM1.2.1.fie (by omega) (by omega), hS.w107 (by omega) (by omega), obs, show (51 + a).toNat = 51 + a.toNat by omega]
          unfold dAns dN
          rw [if_neg (by decide), if_neg (by decide), if_pos rfl, if_neg (by decide), if_neg (by decide), if_pos rfl]
          exact ⟨_, rfl, hM1.st (by omega) R1 (hN.s5 c2.1 (by omega)) rfl, hP1.rw (psh_u hu), ((ms_md hA0).trans (rm_md hA1)).setI (Or.inl (Or.inr ⟨rfl, by omega, by omega⟩))⟩
      · rw [if_neg (ceqF (fun q => c3 (v3.mp q)) (by omega) (by omega) (by omega) (by omega))]
        exact mno (c := -3) hM hP (by rw [er, if_pos c2, if_pos c1, if_neg (fun q => c3 q.1)]) (by decide) zAg.rfl'
    · rw [if_neg (fun q => c1 (of_decide_eq_true q))]
      exact mno (c := -2) hM hP (by rw [er, if_pos c2, if_neg c1]) (by decide) zAg.rfl'
  · rw [if_neg (fun q => c2 (of_decide_eq_true q))]
    exact mno (c := -1) hM hP (by rw [er, if_neg c2]) (by decide) zAg.rfl'
theorem s_mpass (hS : ShOK S B) (hM : MN M B N Ls) {T : Pst} (hP : PM M B T) (hu : pU T ≤ 16) (hn : 1000 ≤ n) (hh : N 9 0 ≤ 999) {a b : Int} : ∃ M', F_Mo_passNow n E S (B + 105) M = some (iI (pfA N Ls 3 a b), M') ∧ MN M' B (pfN N Ls 3 a b) Ls ∧ PM M' B (pfT N Ls T 3 a b) ∧ zAg (mdX B) M M' := by
  have hN := hM.2.2.1
  have hho := hN.hour
  unfold F_Mo_passNow
  have er : rfs N Ls 3 a b = if N 9 0 < 999 then 0 else -3 := by unfold rfs; rw [if_neg (by decide), if_neg (by decide), if_neg (by decide)]
  rw [hS.g105_3, obs, iL4, hS.r107 (by omega) (by omega), obs, tn4, hM.2.1.hour, iL999]
  by_cases c : N 9 0 < 999
  · obtain ⟨M1, e1, hP1, hA1⟩ := s_remember (n := n) (E := E) (N := N) (d := 3) (a := a) (b := b) (g := dG N 3) hS hn hP hu hM.2.1
    have hM1 := hM.rm hA1
    obtain ⟨M2, e2, hM2, hA2⟩ := s_passIt (n := n) (E := E) hS hM1 (by omega) (by omega)
    have er0 : rfs N Ls 3 a b = 0 := by rw [er, if_pos c]
    rw [pfA_0 er0, pfN_0 er0, pfT_0 er0, if_neg (ceqF (by omega) (by omega) (by omega) (by omega) (by omega)), iL3, e1, obs, e2, obs]
    unfold dAns dN
    rw [if_neg (by decide), if_neg (by decide), if_neg (by decide), if_neg (by decide), if_neg (by decide), if_neg (by decide)]
    exact ⟨M2, rfl, hM2, hP1.ag (psh_u hu) hA2 (fun q => by unfold paX fScr mScr at q; omega) (fun j _ q => by unfold paX fScr mScr at q; omega) (fun j _ q => by unfold paX fScr mScr at q; omega), (rm_md hA1).trans (hA2.mono (fun _ _ q => Or.inl q))⟩
  · rw [if_pos (ceqT (by omega))]
    exact mno (c := -3) hM hP (by rw [er, if_neg c]) (by decide) zAg.rfl'
theorem s_mact (hS : ShOK S B) (hM : MN M B N Ls) {T : Pst} (hP : PM M B T) (hu : pU T ≤ 16) (hn : 1000 ≤ n) (hh : N 9 0 ≤ 999) {k a b : Int} (hk : 0 ≤ k ∧ k ≤ 3) (ha : zR a) (hb : zR b) : ∃ M', F_Mo_act n E S (B + 105) (iI k) (iI a) (iI b) M = some (iI (pfA N Ls k a b), M') ∧ MN M' B (pfN N Ls k a b) Ls ∧ PM M' B (pfT N Ls T k a b) ∧ zAg (mdX B) M M' := by
  unfold F_Mo_act
  by_cases c0 : k = 0
  · subst c0
    obtain ⟨M', e, h⟩ := s_mblock (n := n) (E := E) hS hM hP hu hn ha hb
    rw [if_pos q00, hS.ck105, obs, e, obs]; exact ⟨M', rfl, h⟩
  rw [if_neg (by rw [iL0, xeq (by omega) (by omega) (by omega) (by omega)]; exact c0)]
  by_cases c1 : k = 1
  · subst c1
    obtain ⟨M', e, h⟩ := s_mream (n := n) (E := E) hS hM hP hu hn ha hb
    rw [if_pos q11, hS.ck105, obs, e, obs]; exact ⟨M', rfl, h⟩
  rw [if_neg (by rw [iL1, xeq (by omega) (by omega) (by omega) (by omega)]; exact c1)]
  by_cases c2 : k = 2
  · subst c2
    obtain ⟨M', e, h⟩ := s_mset (n := n) (E := E) hS hM hP hu hn ha hb
    rw [if_pos q22, hS.ck105, obs, e, obs]; exact ⟨M', rfl, h⟩
  rw [if_neg (by rw [iL2, xeq (by omega) (by omega) (by omega) (by omega)]; exact c2)]
  obtain rfl : k = 3 := by omega
  obtain ⟨M', e, h⟩ := s_mpass (n := n) (E := E) (a := a) (b := b) hS hM hP hu hn hh
  rw [hS.ck105, obs, e, obs]; exact ⟨M', rfl, h⟩
end
