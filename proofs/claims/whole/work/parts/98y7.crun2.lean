/-! orders: running, the class (2) -/
section
variable {n : Nat} {E : zE} {S : zS} {M : zH} {B : Nat} {Ls : Nat → Lw} {x : Sto} {len cl : Nat} {st : Nat → Int} {DD : Nat → Ds} {wm : Nat → Nat} {mk : Nat → Nat → Nat} {c : Nat}
theorem RS.m83 {M' : zH} (h : RS S M B Ls x) (hA : zAg (fun b _ => b = B + 83) M M') : RS S M' B Ls x := ⟨h.1.ag hA (fun b j q => by omega), h.2.1.ag hA (by omega) (fun j => by omega), by rw [(hA _ _ (by omega)).1]; exact h.2.2.1, by rw [(hA _ _ (by omega)).1]; exact h.2.2.2⟩
theorem ru_83 {M' : zH} (hA : zAg (fun b _ => b = B + 83) M M') : zAg (ruX B) M M' := hA.mono (fun b j q => Or.inr (Or.inl q))
/-- its sums and the deed -/
theorem cr_115 (hS : ShOK S B) (hn : 1000 ≤ n) (hT : TR S M B len cl st DD wm mk) (hc : c < cl) (hR : RS S M B Ls x) {k : Nat} (hO : StO x k) (hk : k ≤ 1000) {w' : Nat → Int} (hW : WdR S M (B + 84) 19 w') (hw : ∀ i, i < 11 ∨ (wm c).testBit i = true → w' i = wS Ls x i) {x9 : Int32} : (doA (DD c) Ls x = none → ∃ M', (∀ r13 r61, F_Ru_run_b115 n E S r13 r61 (B + 81) (B + 1) (B + 63) (B + 70) (iI (c : Int)) (iI (mk c 0 : Int)) (iI (mk c 1 : Int)) (iI (mk c 2 : Int)) (iI (mk c 3 : Int)) x9 M = some (iI (c : Int), M')) ∧ zAg (ruX B) M M') ∧ ∀ y, doA (DD c) Ls x = some y → ∃ M', (∀ r13 r61, F_Ru_run_b115 n E S r13 r61 (B + 81) (B + 1) (B + 63) (B + 70) (iI (c : Int)) (iI (mk c 0 : Int)) (iI (mk c 1 : Int)) (iI (mk c 2 : Int)) (iI (mk c 3 : Int)) x9 M = r61 (B + 81, B + 1, B + 63, B + 70, iI (c : Int), iI (mk c 0 : Int), iI (mk c 1 : Int), iI (mk c 2 : Int), iI (mk c 3 : Int), x9 + 1, M')) ∧ RS S M' B Ls y ∧ zAg (ruX B) M M' := by
  obtain ⟨_, _, _, _, hcl, hkd, _⟩ := hT.1
  obtain ⟨kk1', kk2, kk3, kk4, kk5, _⟩ := hkd c hc
  have kk1 : mI M (B + 72) c = iI (DD c).1 := kk1'
  have kq : 0 ≤ (DD c).1 ∧ (DD c).1 ≤ 3 := ⟨kk4, kk5⟩
  obtain ⟨w19, sm, tg, ⟨n1, n2, n3, n4⟩, _⟩ := hT.2 c hc
  have hzb : ∀ i, zB (wS Ls x i) := fun i => wO_zB hO.2.1 ⟨hO.2.2.2.1.1, by have := hO.2.2.2.1.2; omega⟩ ⟨hO.2.2.2.2.1, by have := hO.2.2.2.2.2; omega⟩ i
  by_cases k3 : (DD c).1 = 3
  · have ea : argO (DD c) (wS Ls x) = some (0, 0) := by unfold argO; rw [if_pos k3]
    have ed : doA (DD c) Ls x = doO (DD c) Ls x 0 0 := by unfold doA; rw [ea]
    rw [ed]
    have cd := cr_do (n := n) (E := E) (x5 := iI (mk c 0 : Int)) (x6 := iI (mk c 1 : Int)) (x7 := iI (mk c 2 : Int)) (x8 := iI (mk c 3 : Int)) (x9 := x9) hS hn hT hc hR hO (a := 0) (b := 0) ⟨by decide, by decide⟩ ⟨by decide, by decide⟩
    have red : ∀ r13 r61, F_Ru_run_b115 n E S r13 r61 (B + 81) (B + 1) (B + 63) (B + 70) (iI (c : Int)) (iI (mk c 0 : Int)) (iI (mk c 1 : Int)) (iI (mk c 2 : Int)) (iI (mk c 3 : Int)) x9 M = F_Ru_run_b185 n E S r13 r61 (B + 81) (B + 1) (B + 63) (B + 70) (iI (c : Int)) (iI (mk c 0 : Int)) (iI (mk c 1 : Int)) (iI (mk c 2 : Int)) (iI (mk c 3 : Int)) x9 (iI 0) (iI 0) M := fun r13 r61 => by
      unfold F_Ru_run_b115 F_Ru_run_b131 F_Ru_run_b158
      rw [hS.g70_1, obs, hS.r72 (by omega) (by omega), obs, Int.toNat_natCast, kk1, k3, if_pos (show iI 3 = 3 by decide), if_pos rfl, if_pos rfl]
      rfl
    refine ⟨fun e => ?_, fun y e => ?_⟩
    · obtain ⟨M', e1, z1⟩ := cd.1 e
      exact ⟨M', fun r13 r61 => by rw [red]; exact e1 r13 r61, z1⟩
    · obtain ⟨M', e1, h1, z1⟩ := cd.2 y e
      exact ⟨M', fun r13 r61 => by rw [red]; exact e1 r13 r61, h1, z1⟩
  · obtain ⟨⟨s1, d1⟩, s2, d2⟩ := sm k3
    obtain ⟨M1, e1, z1, b1⟩ := s_piece (n := n) (E := E) hS hn hT hW hw hzb s1 d1 (by omega)
    have hT1 := hT.ag z1 (fun b j q1 q2 => by omega)
    obtain ⟨M2, e2, z2, b2⟩ := s_piece (n := n) (E := E) hS hn hT1 (hW.m83 z1) hw hzb s2 d2 (by omega)
    have hT2 := hT1.ag z2 (fun b j q1 q2 => by omega)
    have hR2 := (hR.m83 z1).m83 z2
    have z12 := (ru_83 z1).trans (ru_83 z2)
    have red : ∀ r13 r61, F_Ru_run_b115 n E S r13 r61 (B + 81) (B + 1) (B + 63) (B + 70) (iI (c : Int)) (iI (mk c 0 : Int)) (iI (mk c 1 : Int)) (iI (mk c 2 : Int)) (iI (mk c 3 : Int)) x9 M = F_Ru_run_b185 n E S r13 r61 (B + 81) (B + 1) (B + 63) (B + 70) (iI (c : Int)) (iI (mk c 0 : Int)) (iI (mk c 1 : Int)) (iI (mk c 2 : Int)) (iI (mk c 3 : Int)) x9 (bkC ((DD c).2.2.1 (wS Ls x))) (bkC ((DD c).2.2.2.1 (wS Ls x))) M2 := fun r13 r61 => by
      unfold F_Ru_run_b115 F_Ru_run_b131 F_Ru_run_b158
      rw [hS.g70_1, obs, hS.r72 (by omega) (by omega), obs, Int.toNat_natCast, kk1, if_neg (show ¬ iI (DD c).1 = 3 from ceqF (y := 3) k3 (by omega) (by omega) (by omega) (by omega)), if_neg (show ¬ (1 : Int32) = 0 by decide), hS.g81_2, obs, hS.g81_3, obs, hS.ck82, obs, e1, obs, if_neg (show ¬ (1 : Int32) = 0 by decide), obs, obs, hS.ck82, obs, e2, obs]
    have bn : bkC none = (-2147483648 : Int32) := rfl
    cases h1 : (DD c).2.2.1 (wS Ls x) with
    | none =>
      have ea : argO (DD c) (wS Ls x) = none := by unfold argO; rw [if_neg k3, h1]
      have ed : doA (DD c) Ls x = none := by unfold doA; rw [ea]
      rw [ed]
      refine ⟨fun _ => ⟨M2, fun r13 r61 => ?_, z12⟩, fun y e => by cases e⟩
      rw [red, h1, bn]
      unfold F_Ru_run_b185
      rw [if_pos rfl]
    | some a =>
      cases h2 : (DD c).2.2.2.1 (wS Ls x) with
      | none =>
        have ea : argO (DD c) (wS Ls x) = none := by unfold argO; rw [if_neg k3, h1]; dsimp only; rw [h2]
        have ed : doA (DD c) Ls x = none := by unfold doA; rw [ea]
        rw [ed]
        refine ⟨fun _ => ⟨M2, fun r13 r61 => ?_, z12⟩, fun y e => by cases e⟩
        rw [red, h1, h2, bn, show bkC (some a) = iI a from rfl]
        unfold F_Ru_run_b185
        rw [if_neg (bk_n (b1 a h1)), if_pos rfl]
      | some b =>
        have ea : argO (DD c) (wS Ls x) = some (a, b) := by unfold argO; rw [if_neg k3, h1]; dsimp only; rw [h2]
        have ed : doA (DD c) Ls x = doO (DD c) Ls x a b := by unfold doA; rw [ea]
        rw [ed]
        have cd := cr_do (n := n) (E := E) (x5 := iI (mk c 0 : Int)) (x6 := iI (mk c 1 : Int)) (x7 := iI (mk c 2 : Int)) (x8 := iI (mk c 3 : Int)) (x9 := x9) hS hn hT2 hc hR2 hO (b1 a h1) (b2 b h2)
        refine ⟨fun e => ?_, fun y e => ?_⟩
        · obtain ⟨M', e1, z1⟩ := cd.1 e
          exact ⟨M', fun r13 r61 => by rw [red, h1, h2]; exact e1 r13 r61, z12.trans z1⟩
        · obtain ⟨M', e1, h1', z1⟩ := cd.2 y e
          exact ⟨M', fun r13 r61 => by rw [red, h1, h2]; exact e1 r13 r61, h1', z12.trans z1⟩
theorem cr_step (hS : ShOK S B) (hn : 1000 ≤ n) (hT : TR S M B len cl st DD wm mk) (hc : c < cl) (hR : RS S M B Ls x) {k : Nat} (hO : StO x k) (hk : k ≤ 1000) {i : Nat} (hi : (i : Int) < (DD c).2.1) : (stepO (DD c) Ls x = none → ∃ M', (∀ r13 r61, F_Ru_run_L61 n E S r13 r61 (B + 81) (B + 1) (B + 63) (B + 70) (iI (c : Int)) (iI (mk c 0 : Int)) (iI (mk c 1 : Int)) (iI (mk c 2 : Int)) (iI (mk c 3 : Int)) (iI (i : Int)) M = some (iI (c : Int), M')) ∧ zAg (ruX B) M M') ∧ ∀ y, stepO (DD c) Ls x = some y → ∃ M', (∀ r13 r61, F_Ru_run_L61 n E S r13 r61 (B + 81) (B + 1) (B + 63) (B + 70) (iI (c : Int)) (iI (mk c 0 : Int)) (iI (mk c 1 : Int)) (iI (mk c 2 : Int)) (iI (mk c 3 : Int)) (iI (i : Int)) M = r61 (B + 81, B + 1, B + 63, B + 70, iI (c : Int), iI (mk c 0 : Int), iI (mk c 1 : Int), iI (mk c 2 : Int), iI (mk c 3 : Int), iI ((i + 1 : Nat) : Int), M')) ∧ RS S M' B Ls y ∧ zAg (ruX B) M M' := by
  obtain ⟨_, _, _, _, hcl, hkd, _⟩ := hT.1
  obtain ⟨kk1, kk2', kk3', kk4, kk5, kk6, kk7, kk8, kk9⟩ := hkd c hc
  have kk2 : mI M (B + 73) c = iI (DD c).2.1 := kk2'
  have kk3 : mI M (B + 74) c = iI (wm c : Int) := kk3'
  have tq : 0 ≤ (DD c).2.1 ∧ (DD c).2.1 ≤ 20 := ⟨kk6, kk7⟩
  obtain ⟨w19, sm, tg, ⟨n1, n2, n3, n4⟩, _⟩ := hT.2 c hc
  have hl : len ≤ 400 := by have := hT.1.1.2.2.2.1; have := hT.1.1.2.2.2.2.1; omega
  have hzb : ∀ i, zB (wS Ls x i) := fun i => wO_zB hO.2.1 ⟨hO.2.2.2.1.1, by have := hO.2.2.2.1.2; omega⟩ ⟨hO.2.2.2.2.1, by have := hO.2.2.2.2.2; omega⟩ i
  obtain ⟨M1, w', e1, hW, hw0, z1⟩ := s_findW (n := n) (E := E) hS hR.1 hn ⟨hO.2.2.2.1.1, by have := hO.2.2.2.1.2; omega⟩ ⟨hO.2.2.2.2.1, by have := hO.2.2.2.2.2; omega⟩ hR.2.2.1 hR.2.2.2 w19
  have hw : ∀ i, i < 11 ∨ (wm c).testBit i = true → w' i = wS Ls x i := hw0
  have hT1 := hT.ag z1 (fun b j q1 q2 => by unfold fwX; omega)
  have hR1 : RS S M1 B Ls x := ⟨hR.1.fw z1, hR.2.1.ag z1 (by unfold fwX; omega) (fun j => by unfold fwX; omega), by rw [(z1 _ _ (by unfold fwX; omega)).1]; exact hR.2.2.1, by rw [(z1 _ _ (by unfold fwX; omega)).1]; exact hR.2.2.2⟩
  have z1' : zAg (ruX B) M M1 := z1.mono (fun b j q => by unfold fwX at q; unfold ruX dfX cScr; omega)
  have red : ∀ r13 r61, F_Ru_run_L61 n E S r13 r61 (B + 81) (B + 1) (B + 63) (B + 70) (iI (c : Int)) (iI (mk c 0 : Int)) (iI (mk c 1 : Int)) (iI (mk c 2 : Int)) (iI (mk c 3 : Int)) (iI (i : Int)) M = if iI (mk c 3 : Int) ≤ iI (mk c 2 : Int) then F_Ru_run_b115 n E S r13 r61 (B + 81) (B + 1) (B + 63) (B + 70) (iI (c : Int)) (iI (mk c 0 : Int)) (iI (mk c 1 : Int)) (iI (mk c 2 : Int)) (iI (mk c 3 : Int)) (iI (i : Int)) M1 else (F_Mc_work n E S (B + 82) (B + 70) (iI (mk c 2 : Int)) (iI (mk c 3 : Int)) (B + 84) M1).bind fun q_39 => if q_39.1 = 1 then F_Ru_run_b115 n E S r13 r61 (B + 81) (B + 1) (B + 63) (B + 70) (iI (c : Int)) (iI (mk c 0 : Int)) (iI (mk c 1 : Int)) (iI (mk c 2 : Int)) (iI (mk c 3 : Int)) (iI (i : Int)) q_39.2 else F_Ru_run_b268 n E S r13 r61 (B + 81) (B + 1) (B + 63) (B + 70) (iI (c : Int)) (iI (mk c 0 : Int)) (iI (mk c 1 : Int)) (iI (mk c 2 : Int)) (iI (mk c 3 : Int)) (iI (i : Int)) q_39.2 := fun r13 r61 => by
    unfold F_Ru_run_L61
    rw [hS.g70_2, obs, hS.r73 (by omega) (by omega), obs, Int.toNat_natCast, kk2, if_neg (cleF hi (by omega) (by omega)), hS.g70_3, obs, hS.r74 (by omega) (by omega), obs, Int.toNat_natCast, kk3, hS.ck81, obs, e1, obs, hS.g81_2, obs, hS.g81_3, obs, hS.ck82, obs]
  have i1 : iI (i : Int) + 1 = iI ((i + 1 : Nat) : Int) := by rw [iL1, iI_add]; rfl
  cases hg : (DD c).2.2.2.2 with
  | none =>
    rw [hg] at tg
    have tg' : mk c 2 = mk c 3 := tg
    have eh : holdO (DD c) (wS Ls x) = true := by unfold holdO; rw [hg]
    have es : stepO (DD c) Ls x = doA (DD c) Ls x := by unfold stepO; rw [if_pos eh]
    rw [es]
    have cd := cr_115 (n := n) (E := E) hS hn hT1 hc hR1 hO hk hW hw (x9 := iI (i : Int))
    refine ⟨fun e => ?_, fun y e => ?_⟩
    · obtain ⟨M', e2, z2⟩ := cd.1 e
      exact ⟨M', fun r13 r61 => by rw [red, if_pos (cleT (by omega) (by omega) (by omega))]; exact e2 r13 r61, z1'.trans z2⟩
    · obtain ⟨M', e2, h2, z2⟩ := cd.2 y e
      exact ⟨M', fun r13 r61 => by rw [red, if_pos (cleT (by omega) (by omega) (by omega)), ← i1]; exact e2 r13 r61, h2, z1'.trans z2⟩
  | some g =>
    rw [hg] at tg
    obtain ⟨t1, t2, t3, t4⟩ := tg
    obtain ⟨M2, e2, z2, b2⟩ := s_piece (n := n) (E := E) hS hn hT1 hW hw hzb t3 t4 (by omega)
    have hT2 := hT1.ag z2 (fun b j q1 q2 => by omega)
    have hR2 := hR1.m83 z2
    have z12 := z1'.trans (ru_83 z2)
    have nle : ¬ iI (mk c 3 : Int) ≤ iI (mk c 2 : Int) := cleF (by omega) (by omega) (by omega)
    by_cases hh : g (wS Ls x) = some 1
    · have eh : holdO (DD c) (wS Ls x) = true := by unfold holdO; rw [hg]; exact decide_eq_true hh
      have es : stepO (DD c) Ls x = doA (DD c) Ls x := by unfold stepO; rw [if_pos eh]
      rw [es]
      have cd := cr_115 (n := n) (E := E) hS hn hT2 hc hR2 hO hk (hW.m83 z2) hw (x9 := iI (i : Int))
      have r2 : ∀ r13 r61, F_Ru_run_L61 n E S r13 r61 (B + 81) (B + 1) (B + 63) (B + 70) (iI (c : Int)) (iI (mk c 0 : Int)) (iI (mk c 1 : Int)) (iI (mk c 2 : Int)) (iI (mk c 3 : Int)) (iI (i : Int)) M = F_Ru_run_b115 n E S r13 r61 (B + 81) (B + 1) (B + 63) (B + 70) (iI (c : Int)) (iI (mk c 0 : Int)) (iI (mk c 1 : Int)) (iI (mk c 2 : Int)) (iI (mk c 3 : Int)) (iI (i : Int)) M2 := fun r13 r61 => by
        rw [red, if_neg nle, e2, obs, hh, if_pos (show bkC (some 1) = 1 by decide)]
      refine ⟨fun e => ?_, fun y e => ?_⟩
      · obtain ⟨M', e3, z3⟩ := cd.1 e
        exact ⟨M', fun r13 r61 => by rw [r2]; exact e3 r13 r61, z12.trans z3⟩
      · obtain ⟨M', e3, h3, z3⟩ := cd.2 y e
        exact ⟨M', fun r13 r61 => by rw [r2, ← i1]; exact e3 r13 r61, h3, z12.trans z3⟩
    · have eh : ¬ holdO (DD c) (wS Ls x) = true := by unfold holdO; rw [hg]; exact fun z => hh (of_decide_eq_true z)
      have es : stepO (DD c) Ls x = some x := by unfold stepO; rw [if_neg eh]
      rw [es]
      refine ⟨fun e => (by cases e), fun y e => ?_⟩
      rw [← Option.some.inj e]
      refine ⟨M2, fun r13 r61 => ?_, hR2, z12⟩
      have nb : ¬ bkC (g (wS Ls x)) = 1 := by
        cases hgw : g (wS Ls x) with
        | none => decide
        | some v =>
          have := t2 _ v hgw
          have : v = 0 := by
            rcases this with q | q
            · exact q
            · rw [q] at hgw; exact absurd hgw hh
          rw [this]; decide
      unfold F_Ru_run_b268 at red
      rw [red, if_neg nle, e2, obs, if_neg nb, i1]
end
