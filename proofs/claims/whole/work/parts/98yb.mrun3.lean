/-! orders: running, the model (3): a run, and the loops -/
section
variable {n : Nat} {E : zE} {S : zS} {M M' MM MM' : zH} {B : Nat} {Ls : Nat → Lw} {x : Sto} {mo ma : Nat → Int} {nc c : Nat} {D : Ds}
def lyX (B : Nat) : Nat → Nat → Prop := fun b j => b = B + 124 ∨ fScr B b j ∨ (b = B + 105 ∧ j = 53)
theorem ly_mru (hA : zAg (lyX B) MM MM') : zAg (mruX B) MM MM' := hA.mono (fun b j q => by unfold lyX fScr mScr at q; unfold mruX mdX paX fScr mScr smX rkX; omega)
/-- the words are laid -/
theorem mr_lay (hS : ShOK S B) (hn : 1000 ≤ n) (hR : MRS MM B Ls x) {k : Nat} (hO : StO x k) (hk : k ≤ 1000) : ∃ M1, F_Mo_run n E S (B + 105) (iI ((8 * c : Nat) : Int)) MM = ((zgR S (B + 105) 11 49).bind fun b_28 => (zldI S M1 b_28 (iI ((8 * c + 5 : Nat) : Int))).bind fun v_29 => (zldI S M1 b_28 (iI ((8 * c + 6 : Nat) : Int))).bind fun v_30 => if v_30 ≤ v_29 then F_Mo_run_b96 n E S (B + 105) (iI ((8 * c : Nat) : Int)) M1 else (F_Mo_sumOf n E S (B + 105) (iI ((8 * c + 5 : Nat) : Int)) M1).bind fun q_32 => (zgI S q_32.2 (B + 105) 11 53).bind fun v_33 => if v_33 = 0 then if q_32.1 = 0 then some (0, q_32.2) else F_Mo_run_b96 n E S (B + 105) (iI ((8 * c : Nat) : Int)) q_32.2 else some (0, q_32.2)) ∧ LD M1 B (wS Ls x) ∧ mI M1 (B + 105) 53 = iI 0 ∧ zAg (lyX B) MM M1 := by
  obtain ⟨hM, hP, h50, h51⟩ := hR
  have hN := hM.2.2.1
  have hh := hN.hour
  have lb := lev_b hN
  have hd : 0 ≤ x.2.2.1 ∧ x.2.2.1 ≤ 1000 := ⟨hO.2.2.2.1.1, by have := hO.2.2.2.1.2; omega⟩
  have hla : -1 ≤ x.2.2.2 ∧ x.2.2.2 ≤ 1000 := ⟨hO.2.2.2.2.1, by have := hO.2.2.2.2.2; omega⟩
  have hA1 : zAg (fun b j => b = B + 124) MM (setJ (setJ (setJ (setJ MM (B + 124) 1 (jJ (x.1 9 0))) (B + 124) 2 (jJ x.2.2.1)) (B + 124) 3 (jJ x.2.2.2)) (B + 124) 4 (jJ (zsum (x.1 4) (x.1 11 0).toNat))) := (((zAg.rfl'.setJ (by rfl)).setJ (by rfl)).setJ (by rfl)).setJ (by rfl)
  have lv : F_Mo_levels n E S (B + 105) (setJ (setJ (setJ MM (B + 124) 1 (jJ (x.1 9 0))) (B + 124) 2 (jJ x.2.2.1)) (B + 124) 3 (jJ x.2.2.2)) = some (iI (zsum (x.1 4) (x.1 11 0).toNat), setJ (setJ (setJ MM (B + 124) 1 (jJ (x.1 9 0))) (B + 124) 2 (jJ x.2.2.1)) (B + 124) 3 (jJ x.2.2.2)) := s_mlevels hS hM.2.1 hN (by omega)
  have d4 : ∀ i, i < 4 → mJ (setJ (setJ (setJ (setJ MM (B + 124) 1 (jJ (x.1 9 0))) (B + 124) 2 (jJ x.2.2.1)) (B + 124) 3 (jJ x.2.2.2)) (B + 124) 4 (jJ (zsum (x.1 4) (x.1 11 0).toNat))) (B + 124) (i + 1) = jJ (wS Ls x i) := fun i hi => by
    have : i = 0 ∨ i = 1 ∨ i = 2 ∨ i = 3 := by omega
    rw [mJ_ite, mJ_ite, mJ_ite, mJ_ite]
    rcases this with rfl | rfl | rfl | rfl
    · rw [if_neg (by omega), if_neg (by omega), if_neg (by omega), if_pos (by omega)]; rfl
    · rw [if_neg (by omega), if_neg (by omega), if_pos (by omega)]; rfl
    · rw [if_neg (by omega), if_pos (by omega)]; rfl
    · rw [if_pos (by omega)]; rfl
  have start : F_Mo_run n E S (B + 105) (iI ((8 * c : Nat) : Int)) MM = (F_Mo_layFlow n E S (B + 105) (setJ (setJ (setJ (setJ MM (B + 124) 1 (jJ (x.1 9 0))) (B + 124) 2 (jJ x.2.2.1)) (B + 124) 3 (jJ x.2.2.2)) (B + 124) 4 (jJ (zsum (x.1 4) (x.1 11 0).toNat)))).bind fun q_26 => (zpZ S q_26 (B + 105) 11 53 0).bind fun m_27 => (zgR S (B + 105) 11 49).bind fun b_28 => (zldI S m_27 b_28 (iI ((8 * c + 5 : Nat) : Int))).bind fun v_29 => (zldI S m_27 b_28 (iI ((8 * c + 6 : Nat) : Int))).bind fun v_30 => if v_30 ≤ v_29 then F_Mo_run_b96 n E S (B + 105) (iI ((8 * c : Nat) : Int)) m_27 else (F_Mo_sumOf n E S (B + 105) (iI ((8 * c + 5 : Nat) : Int)) m_27).bind fun q_32 => (zgI S q_32.2 (B + 105) 11 53).bind fun v_33 => if v_33 = 0 then if q_32.1 = 0 then some (0, q_32.2) else F_Mo_run_b96 n E S (B + 105) (iI ((8 * c : Nat) : Int)) q_32.2 else some (0, q_32.2) := by
    unfold F_Mo_run
    rw [e_8 5 (by decide), e_8 6 (by decide), hS.g105_36, obs, hS.g105_3, obs, iL4, hS.r107 (by omega) (by omega), obs, show (4 : Int).toNat = 4 from rfl, hM.2.1.hour, xJ (by omega) (by omega), iL1, hS.w124 (by omega) (by omega), obs, hS.i105, obs, mI_setJ, h50, xJ (by omega) (by omega), show (2 : Int32) = iI 2 by decide, hS.w124 (by omega) (by omega), obs, hS.i105, obs, mI_setJ, mI_setJ, h51, xJ (by omega) (by omega), show (3 : Int32) = iI 3 by decide, hS.w124 (by omega) (by omega), obs]
    rw [show (1 : Int).toNat = 1 from rfl, show (2 : Int).toNat = 2 from rfl, show (3 : Int).toNat = 3 from rfl, lv, obs]
    dsimp only
    rw [xJ (by omega) (by omega), hS.w124 (by omega) (by omega), obs, show (4 : Int).toNat = 4 from rfl]
  rw [start]
  generalize setJ (setJ (setJ (setJ MM (B + 124) 1 (jJ (x.1 9 0))) (B + 124) 2 (jJ x.2.2.1)) (B + 124) 3 (jJ x.2.2.2)) (B + 124) 4 (jJ (zsum (x.1 4) (x.1 11 0).toNat)) = Ma at hA1 d4
  have hMa := hM.ag hA1 (fun j q => by omega) (by omega)
  obtain ⟨Mb, eb, zb, fb⟩ := s_layFlow (n := n) (E := E) hS hMa (by omega)
  refine ⟨setI Mb (B + 105) 53 0, ?_, ⟨fun i hi => ?_, fun f hf => ?_⟩, mI_s, ((hA1.mono (fun b j q => Or.inl q)).trans (zb.mono (fun b j q => Or.inr (Or.inl q)))).setI (Or.inr (Or.inr ⟨rfl, rfl⟩))⟩
  · rw [eb, obs, hS.z1050, obs]
  · rw [mJ_setI, (zb _ _ (by unfold fScr mScr; omega)).2.1]; exact d4 i hi
  · rw [mI_a (by omega), fb f hf]
    unfold wS
    rw [wO_11]
theorem MRS.ly (h : MRS MM B Ls x) (hA : zAg (lyX B) MM MM') (hu : pU x.2.1 ≤ 16) : MRS MM' B Ls x :=
  ⟨h.1.ag hA (fun j => by unfold lyX fScr mScr; omega) (by unfold lyX fScr mScr; omega), h.2.1.ag hu hA (by unfold lyX fScr mScr; omega) (fun j _ => by unfold lyX fScr mScr; omega) (fun j _ => by unfold lyX fScr mScr; omega), by rw [(hA _ _ (by unfold lyX fScr mScr; omega)).1]; exact h.2.2.1, by rw [(hA _ _ (by unfold lyX fScr mScr; omega)).1]; exact h.2.2.2⟩
theorem QM.fr {X : Nat → Nat → Prop} (h : QM MM B true mo ma nc c D) (hA : zAg X MM MM') (hX : ∀ j, ¬ X (B + 134) j) : QM MM' B true mo ma nc c D := h.ag hA (fun j _ _ => hX j) (fun p _ => ⟨rfl, rfl⟩) (Nat.le_refl _)
/-- one run -/
theorem mr_step (hS : ShOK S B) (hn : 1000 ≤ n) (hR : MRS MM B Ls x) {k : Nat} (hO : StO x k) (hk : k ≤ 1000) (hc : c < 12) (hT : MT MM B mo ma nc) (hQ : QM MM B true mo ma nc c D) (kq : 0 ≤ D.1 ∧ D.1 ≤ 3) (ht : ∀ g, D.2.2.2.2 = some g → tst g) : (stepO D Ls x = none → ∃ M', F_Mo_run n E S (B + 105) (iI ((8 * c : Nat) : Int)) MM = some (iI (-3), M') ∧ mI M' (B + 105) 20 = 0 ∧ zAg (mruX B) MM M') ∧ ∀ y, stepO D Ls x = some y → ∃ M', F_Mo_run n E S (B + 105) (iI ((8 * c : Nat) : Int)) MM = some (iI 0, M') ∧ MRS M' B Ls y ∧ zAg (mruX B) MM M' := by
  have hu := hO.1.1
  have hd : 0 ≤ x.2.2.1 ∧ x.2.2.1 ≤ 1000 := ⟨hO.2.2.2.1.1, by have := hO.2.2.2.1.2; omega⟩
  have hla : -1 ≤ x.2.2.2 ∧ x.2.2.2 ≤ 1000 := ⟨hO.2.2.2.2.1, by have := hO.2.2.2.2.2; omega⟩
  obtain ⟨M1, e1, hL1, k53, z1⟩ := mr_lay (n := n) (E := E) (c := c) hS hn hR hO hk
  have hR1 := hR.ly z1 hu
  have hT1 := hT.ag z1 (fun j => by unfold lyX fScr mScr; omega) (fun j => by unfold lyX fScr mScr; omega)
  have hQ1 := hQ.fr z1 (fun j => by unfold lyX fScr mScr; omega)
  rw [e1]
  have c96 := mr_96 (n := n) (E := E) hS hn hR1 hO hk hc hL1 hT1 hQ1 kq k53
  obtain ⟨sg, q0, q1, q7, qs, qz, qt⟩ := hQ1
  have hq : ∀ p, 1 ≤ p → p < 7 → mI M1 (B + 134) (8 * c + p) = iI (sg p : Int) ∧ sg p ≤ nc := fun p p1 p2 => q1 p (Or.inl rfl) p1 p2
  have h5 := hq 5 (by omega) (by omega)
  have h6 := hq 6 (by omega) (by omega)
  have n4 := hT.2.2
  rw [hS.g105_49, obs, hS.r134 (by omega) (by omega), obs, hS.r134 (by omega) (by omega), obs, Int.toNat_natCast, Int.toNat_natCast, h5.1, h6.1]
  cases hg : D.2.2.2.2 with
  | none =>
    rw [hg] at qt
    have qt' : sg 5 = sg 6 := qt
    have es : stepO D Ls x = doA D Ls x := by unfold stepO holdO; rw [hg, if_pos rfl]
    rw [es, if_pos (cleT (by omega) (by omega) (by omega))]
    refine ⟨fun e => ?_, fun y e => ?_⟩
    · obtain ⟨M', e2, y2, z2⟩ := c96.1 e
      exact ⟨M', e2, y2, (ly_mru z1).trans z2⟩
    · obtain ⟨M', e2, h2, z2⟩ := c96.2 y e
      exact ⟨M', e2, h2, (ly_mru z1).trans z2⟩
  | some g =>
    rw [hg] at qt
    obtain ⟨t1, t2⟩ := qt
    have tt := ht g hg
    obtain ⟨M2, r2, e2, z2, y2, f2, g2⟩ := s_sumOf (n := n) (E := E) hS hn hR1.1 hL1 hT1 hd hla (by omega) h5.1 h6.1 k53 t2 h6.2
    have hR2 := hR1.sm z2 y2 hu
    have z12 := (ly_mru z1).trans (sm_mru z2)
    rw [if_neg (cleF (by omega) (by omega) (by omega)), e2, obs]
    dsimp only
    rw [hS.i105, obs]
    cases hgw : g (wS Ls x) with
    | none =>
      have es : stepO D Ls x = some x := by
        have eh : ¬ holdO D (wS Ls x) = true := by unfold holdO; rw [hg]; exact fun z => by have := of_decide_eq_true z; rw [hgw] at this; cases this
        unfold stepO
        rw [if_neg eh]
      rw [es, f2 hgw, if_neg (show ¬ iI 1 = 0 by decide)]
      exact ⟨fun e => (by cases e), fun y e => ⟨M2, rfl, by rw [← Option.some.inj e]; exact hR2, z12⟩⟩
    | some v =>
      obtain ⟨er, bv, k2⟩ := g2 v hgw
      rw [k2, if_pos (show iI 0 = 0 by decide), er]
      rcases tt _ v hgw with q | q
      · have es : stepO D Ls x = some x := by
          have eh : ¬ holdO D (wS Ls x) = true := by unfold holdO; rw [hg]; exact fun z => by have := of_decide_eq_true z; rw [hgw, q] at this; exact absurd (Option.some.inj this) (by decide)
          unfold stepO
          rw [if_neg eh]
        rw [es, q, if_pos (show iI 0 = 0 by decide)]
        exact ⟨fun e => (by cases e), fun y e => ⟨M2, rfl, by rw [← Option.some.inj e]; exact hR2, z12⟩⟩
      · have es : stepO D Ls x = doA D Ls x := by
          have eh : holdO D (wS Ls x) = true := by unfold holdO; rw [hg]; exact decide_eq_true (by rw [hgw, q])
          unfold stepO
          rw [if_pos eh]
        rw [es, q, if_neg (show ¬ iI 1 = 0 by decide)]
        have c2 := mr_96 (n := n) (E := E) (D := D) hS hn hR2 hO hk hc (hL1.sm z2) (hT1.ag z2 (fun j => by unfold smX rkX; omega) (fun j => by unfold smX rkX; omega)) (((hQ.fr z1 (fun j => by unfold lyX fScr mScr; omega)).fr z2 (fun j => by unfold smX rkX; omega))) kq k2
        refine ⟨fun e => ?_, fun y e => ?_⟩
        · obtain ⟨M', e3, y3, z3⟩ := c2.1 e
          exact ⟨M', e3, y3, z12.trans z3⟩
        · obtain ⟨M', e3, h3, z3⟩ := c2.2 y e
          exact ⟨M', e3, h3, z12.trans z3⟩
end
