/-! orders: running, the model (2) -/
section
variable {n : Nat} {E : zE} {S : zS} {M M' MM MM' : zH} {B : Nat} {Ls : Nat → Lw} {x : Sto} {mo ma : Nat → Int} {nc c : Nat} {D : Ds}
theorem MRS.sm (h : MRS MM B Ls x) (hA : zAg (smX B) MM MM') (h20 : mI MM' (B + 105) 20 = 0) (hu : pU x.2.1 ≤ 16) : MRS MM' B Ls x :=
  ⟨⟨h20, h.1.2.1.cg (fun i _ => (hA _ _ (by unfold smX rkX; omega)).1), h.1.2.2.1, fun j hj hl => (h.1.2.2.2 j hj hl).cg (fun i _ _ => (hA _ _ (by unfold smX rkX; omega)).1)⟩, h.2.1.ag hu hA (by unfold smX rkX; omega) (fun j _ => by unfold smX rkX; omega) (fun j _ => by unfold smX rkX; omega), by rw [(hA _ _ (by unfold smX rkX; omega)).1]; exact h.2.2.1, by rw [(hA _ _ (by unfold smX rkX; omega)).1]; exact h.2.2.2⟩
theorem LD.sm {w : Nat → Int} (h : LD MM B w) (hA : zAg (smX B) MM MM') : LD MM' B w := ⟨fun i hi => by rw [(hA _ _ (by unfold smX rkX; omega)).2.1]; exact h.1 i hi, fun f hf => by rw [(hA _ _ (by unfold smX rkX; omega)).1]; exact h.2 f hf⟩
theorem MT.ag {X : Nat → Nat → Prop} (h : MT MM B mo ma nc) (hA : zAg X MM MM') (h1 : ∀ j, ¬ X (B + 116) j) (h2 : ∀ j, ¬ X (B + 117) j) : MT MM' B mo ma nc := ⟨fun k hk => by rw [(hA _ _ (h1 k)).1, (hA _ _ (h2 k)).1]; exact h.1 k hk, h.2⟩
theorem sm_mru (hA : zAg (smX B) MM MM') : zAg (mruX B) MM MM' := hA.mono (fun b j q => Or.inr (Or.inr (Or.inl q)))
theorem e_8 (p : Nat) {v : Int32} (hv : v = iI (p : Int)) : iI ((8 * c : Nat) : Int) + v = iI ((8 * c + p : Nat) : Int) := by rw [hv, iI_add]; rfl
/-- the deed -/
theorem mr_do (hS : ShOK S B) (hR : MRS MM B Ls x) {k : Nat} (hO : StO x k) (hk : k ≤ 1000) (hc : c < 12) (h0 : mI MM (B + 134) (8 * c) = iI D.1) (kq : 0 ≤ D.1 ∧ D.1 ≤ 3) {a b : Int} {r1 r2 : Int32} (hact : ∃ M', F_Mo_act n E S (B + 105) (iI D.1) r1 r2 MM = some (iI (pfA x.1 Ls D.1 a b), M') ∧ MN M' B (pfN x.1 Ls D.1 a b) Ls ∧ PM M' B (pfT x.1 Ls x.2.1 D.1 a b) ∧ zAg (mdX B) MM M') : (doO D Ls x a b = none → ∃ M', ((zgR S (B + 105) 11 49).bind fun b_9 => (zldI S MM b_9 (iI ((8 * c : Nat) : Int))).bind fun v_10 => (F_Mo_act n E S (B + 105) v_10 r1 r2 MM).bind fun q_11 => if 0 ≤ q_11.1 then (zldI S q_11.2 b_9 (iI ((8 * c : Nat) : Int))).bind fun v_13 => if v_13 = 3 then F_Mo_run_b164 n E S (B + 105) q_11.1 (B + 105) q_11.2 else (zgI S q_11.2 (B + 105) 11 51).bind fun v_15 => F_Mo_run_b164 n E S (B + 105) v_15 (B + 105) q_11.2 else some (-3, q_11.2)) = some (iI (-3), M') ∧ mI M' (B + 105) 20 = 0 ∧ zAg (mruX B) MM M') ∧ ∀ y, doO D Ls x a b = some y → ∃ M', ((zgR S (B + 105) 11 49).bind fun b_9 => (zldI S MM b_9 (iI ((8 * c : Nat) : Int))).bind fun v_10 => (F_Mo_act n E S (B + 105) v_10 r1 r2 MM).bind fun q_11 => if 0 ≤ q_11.1 then (zldI S q_11.2 b_9 (iI ((8 * c : Nat) : Int))).bind fun v_13 => if v_13 = 3 then F_Mo_run_b164 n E S (B + 105) q_11.1 (B + 105) q_11.2 else (zgI S q_11.2 (B + 105) 11 51).bind fun v_15 => F_Mo_run_b164 n E S (B + 105) v_15 (B + 105) q_11.2 else some (-3, q_11.2)) = some (iI 0, M') ∧ MRS M' B Ls y ∧ zAg (mruX B) MM M' := by
  obtain ⟨h1, h2, h3, h4⟩ := hR
  obtain ⟨j1, j2, j3, j4, j5⟩ := hO
  obtain ⟨M1, e1, c1, p1, hA1⟩ := hact
  have pc := pfA_c (Ls := Ls) (a := a) (b := b) j2 (k := D.1) kq
  have hA1' : zAg (mruX B) MM M1 := hA1.mono (fun b j q => Or.inl q)
  have kd1 : mI M1 (B + 134) (8 * c) = iI D.1 := by rw [(hA1 _ _ (by unfold mdX paX rmX fScr mScr; omega)).1]; exact h0
  have q4 : mI M1 (B + 105) 50 = iI x.2.2.1 := by rw [(hA1 _ _ (by unfold mdX paX rmX fScr mScr; omega)).1]; exact h3
  have q5 : mI M1 (B + 105) 51 = iI x.2.2.2 := by rw [(hA1 _ _ (by unfold mdX paX rmX fScr mScr; omega)).1]; exact h4
  constructor
  · intro e
    have hneg : pfA x.1 Ls D.1 a b < 0 := by
      unfold doO at e
      by_cases z : pfA x.1 Ls D.1 a b < 0
      · exact z
      · rw [if_neg z] at e; cases e
    refine ⟨M1, ?_, c1.1, hA1'⟩
    rw [hS.g105_49, obs, hS.r134 (by omega) (by omega), obs, Int.toNat_natCast, h0, e1, obs]
    dsimp only
    rw [if_neg (show ¬ (0 : Int32) ≤ iI (pfA x.1 Ls D.1 a b) by rw [iL0]; exact cleF (by omega) (by omega) (by omega))]
    rfl
  · intro y e
    have hpos : ¬ pfA x.1 Ls D.1 a b < 0 := fun z => by
      unfold doO at e
      rw [if_pos z] at e; cases e
    have ey : y = (pfN x.1 Ls D.1 a b, pfT x.1 Ls x.2.1 D.1 a b, x.2.2.1 + 1, if D.1 = 3 then pfA x.1 Ls D.1 a b else x.2.2.2) := by
      unfold doO at e
      rw [if_neg hpos] at e
      exact (Option.some.inj e).symm
    have u16 : pU (pfT x.1 Ls x.2.1 D.1 a b) ≤ 16 := (j1.pf (Ls := Ls) (k := D.1) (a := a) (b := b) j2 j3 kq).1
    have hA2 : ∀ v : Int32, zAg (fun b j => b = B + 105 ∧ (j = 50 ∨ j = 51)) M1 (setI (setI M1 (B + 105) 51 v) (B + 105) 50 (iI (x.2.2.1 + 1))) := fun v => (zAg.rfl'.setI ⟨rfl, Or.inr rfl⟩).setI ⟨rfl, Or.inl rfl⟩
    refine ⟨setI (setI M1 (B + 105) 51 (iI (if D.1 = 3 then pfA x.1 Ls D.1 a b else x.2.2.2))) (B + 105) 50 (iI (x.2.2.1 + 1)), ?_, ?_, hA1'.trans ((hA2 _).mono (fun b j q => Or.inr (Or.inr (Or.inr q))))⟩
    · rw [hS.g105_49, obs, hS.r134 (by omega) (by omega), obs, Int.toNat_natCast, h0, e1, obs]
      dsimp only
      rw [if_pos (show (0 : Int32) ≤ iI (pfA x.1 Ls D.1 a b) by rw [iL0]; exact cleT (by omega) (by omega) (by omega)), hS.r134 (by omega) (by omega), obs, Int.toNat_natCast, kd1]
      unfold F_Mo_run_b164
      by_cases z : D.1 = 3
      · rw [if_pos z, z, if_pos (show iI 3 = 3 by decide), hS.p105, obs, hS.i105, obs, mI_i (by decide), q4, iL1, iI_add, hS.p105, obs]
        rfl
      · rw [if_neg z, if_neg (show ¬ iI D.1 = 3 from ceqF (y := 3) z (by omega) (by omega) (by omega) (by omega)), hS.i105, obs, q5, hS.p105, obs, hS.i105, obs, mI_i (by decide), q4, iL1, iI_add, hS.p105, obs]
        rfl
    · rw [ey]
      refine ⟨c1.ag (hA2 _) (fun j q => by omega) (by omega), p1.ag u16 (hA2 _) (by omega) (fun j _ => by omega) (fun j _ => by omega), mI_s, ?_⟩
      rw [mI_i (by decide), mI_s]
/-- its sums and the deed -/
theorem mr_96 (hS : ShOK S B) (hn : 1000 ≤ n) (hR : MRS MM B Ls x) {k : Nat} (hO : StO x k) (hk : k ≤ 1000) (hc : c < 12) (hL : LD MM B (wS Ls x)) (hT : MT MM B mo ma nc) (hQ : QM MM B true mo ma nc c D) (kq : 0 ≤ D.1 ∧ D.1 ≤ 3) (h53 : mI MM (B + 105) 53 = iI 0) : (doA D Ls x = none → ∃ M', F_Mo_run_b96 n E S (B + 105) (iI ((8 * c : Nat) : Int)) MM = some (iI (-3), M') ∧ mI M' (B + 105) 20 = 0 ∧ zAg (mruX B) MM M') ∧ ∀ y, doA D Ls x = some y → ∃ M', F_Mo_run_b96 n E S (B + 105) (iI ((8 * c : Nat) : Int)) MM = some (iI 0, M') ∧ MRS M' B Ls y ∧ zAg (mruX B) MM M' := by
  obtain ⟨sg, q0, q1, q7, qs, qz, qt⟩ := hQ
  have c0 : mI MM (B + 134) (8 * c) = iI D.1 := q0
  have hq : ∀ p, 1 ≤ p → p < 7 → mI MM (B + 134) (8 * c + p) = iI (sg p : Int) ∧ sg p ≤ nc := fun p p1 p2 => q1 p (Or.inl rfl) p1 p2
  have hu := hO.1.1
  have hd : 0 ≤ x.2.2.1 ∧ x.2.2.1 ≤ 1000 := ⟨hO.2.2.2.1.1, by have := hO.2.2.2.1.2; omega⟩
  have hla : -1 ≤ x.2.2.2 ∧ x.2.2.2 ≤ 1000 := ⟨hO.2.2.2.2.1, by have := hO.2.2.2.2.2; omega⟩
  have n3 : (iI (-3) : Int32) = -3 := by decide
  by_cases k3 : D.1 = 3
  · obtain ⟨z1, z2⟩ := qz rfl k3
    have ed : doA D Ls x = doO D Ls x 0 0 := by unfold doA argO; rw [if_pos k3]
    rw [ed]
    have red : F_Mo_run_b96 n E S (B + 105) (iI ((8 * c : Nat) : Int)) MM = ((zgR S (B + 105) 11 49).bind fun b_9 => (zldI S MM b_9 (iI ((8 * c : Nat) : Int))).bind fun v_10 => (F_Mo_act n E S (B + 105) v_10 (iI (-1)) (iI (-1)) MM).bind fun q_11 => if 0 ≤ q_11.1 then (zldI S q_11.2 b_9 (iI ((8 * c : Nat) : Int))).bind fun v_13 => if v_13 = 3 then F_Mo_run_b164 n E S (B + 105) q_11.1 (B + 105) q_11.2 else (zgI S q_11.2 (B + 105) 11 51).bind fun v_15 => F_Mo_run_b164 n E S (B + 105) v_15 (B + 105) q_11.2 else some (-3, q_11.2)) := by
      unfold F_Mo_run_b96
      rw [hS.ck105, obs, e_8 1 (by decide), e_8 3 (by decide), s_sumE hS (by omega) (hq 1 (by omega) (by omega)).1 (by rw [z1]; exact (hq 2 (by omega) (by omega)).1) h53, obs]
      dsimp only
      rw [s_sumE hS (by omega) (hq 3 (by omega) (by omega)).1 (by rw [z2]; exact (hq 4 (by omega) (by omega)).1) h53, obs]
      dsimp only
      rw [hS.i105, obs, h53, if_pos (show iI 0 = 0 by decide)]
    rw [red]
    refine mr_do hS hR hO hk hc c0 kq ?_
    obtain ⟨M', e, h⟩ := s_mpass (n := n) (E := E) (a := 0) (b := 0) hS hR.1 hR.2.1 hu hn hO.2.2.1
    rw [k3]
    refine ⟨M', ?_, h⟩
    unfold F_Mo_act
    rw [if_neg (show ¬ iI 3 = 0 by decide), if_neg (show ¬ iI 3 = 1 by decide), if_neg (show ¬ iI 3 = 2 by decide), hS.ck105, obs, e, obs]
  · obtain ⟨s1, s2⟩ := (qs k3).2 rfl
    obtain ⟨M1, r1, e1, z1, t1, f1, g1⟩ := s_sumOf (n := n) (E := E) hS hn hR.1 hL hT hd hla (by omega) (hq 1 (by omega) (by omega)).1 (hq 2 (by omega) (by omega)).1 h53 s1 (hq 2 (by omega) (by omega)).2
    have hR1 := hR.sm z1 t1 hu
    have hL1 := hL.sm z1
    have hT1 := hT.ag z1 (fun j => by unfold smX rkX; omega) (fun j => by unfold smX rkX; omega)
    cases h1 : D.2.2.1 (wS Ls x) with
    | none =>
      have ed : doA D Ls x = none := by unfold doA argO; rw [if_neg k3, h1]
      rw [ed]
      refine ⟨fun _ => ⟨M1, ?_, t1, sm_mru z1⟩, fun y e => by cases e⟩
      unfold F_Mo_run_b96
      rw [hS.ck105, obs, e_8 1 (by decide), e_8 3 (by decide), e1, obs]
      dsimp only
      rw [s_sumX (j := 0) hS (f1 h1), obs]
      dsimp only
      rw [hS.i105, obs, f1 h1, if_neg (show ¬ iI 1 = 0 by decide)]
      rfl
    | some a =>
      obtain ⟨ea, ba, k53⟩ := g1 a h1
      have cq : ∀ j, mI M1 (B + 134) j = mI MM (B + 134) j := fun j => (z1 _ _ (by unfold smX rkX; omega)).1
      obtain ⟨M2, r2, e2, z2, t2, f2, g2⟩ := s_sumOf (n := n) (E := E) hS hn hR1.1 hL1 hT1 hd hla (by omega) ((cq _).trans (hq 3 (by omega) (by omega)).1) ((cq _).trans (hq 4 (by omega) (by omega)).1) k53 s2 (hq 4 (by omega) (by omega)).2
      have hR2 := hR1.sm z2 t2 hu
      cases h2 : D.2.2.2.1 (wS Ls x) with
      | none =>
        have ed : doA D Ls x = none := by unfold doA argO; rw [if_neg k3, h1]; dsimp only; rw [h2]
        rw [ed]
        refine ⟨fun _ => ⟨M2, ?_, t2, sm_mru (z1.trans z2)⟩, fun y e => by cases e⟩
        unfold F_Mo_run_b96
        rw [hS.ck105, obs, e_8 1 (by decide), e_8 3 (by decide), e1, obs]
        dsimp only
        rw [e2, obs]
        dsimp only
        rw [hS.i105, obs, f2 h2, if_neg (show ¬ iI 1 = 0 by decide)]
        rfl
      | some b =>
        obtain ⟨eb, bb, k53'⟩ := g2 b h2
        have ed : doA D Ls x = doO D Ls x a b := by unfold doA argO; rw [if_neg k3, h1]; dsimp only; rw [h2]
        rw [ed]
        have cq2 : mI M2 (B + 134) (8 * c) = iI D.1 := by rw [(z2 _ _ (by unfold smX rkX; omega)).1, cq]; exact c0
        have md := mr_do (n := n) (E := E) hS hR2 hO hk hc cq2 kq (a := a) (b := b) (r1 := iI a) (r2 := iI b) (s_mact (n := n) (E := E) hS hR2.1 hR2.2.1 hu hn hO.2.2.1 kq ba.r bb.r)
        have red : F_Mo_run_b96 n E S (B + 105) (iI ((8 * c : Nat) : Int)) MM = ((zgR S (B + 105) 11 49).bind fun b_9 => (zldI S M2 b_9 (iI ((8 * c : Nat) : Int))).bind fun v_10 => (F_Mo_act n E S (B + 105) v_10 (iI a) (iI b) M2).bind fun q_11 => if 0 ≤ q_11.1 then (zldI S q_11.2 b_9 (iI ((8 * c : Nat) : Int))).bind fun v_13 => if v_13 = 3 then F_Mo_run_b164 n E S (B + 105) q_11.1 (B + 105) q_11.2 else (zgI S q_11.2 (B + 105) 11 51).bind fun v_15 => F_Mo_run_b164 n E S (B + 105) v_15 (B + 105) q_11.2 else some (-3, q_11.2)) := by
          unfold F_Mo_run_b96
          rw [hS.ck105, obs, e_8 1 (by decide), e_8 3 (by decide), e1, obs]
          dsimp only
          rw [e2, obs]
          dsimp only
          rw [hS.i105, obs, k53', if_pos (show iI 0 = 0 by decide), ea, eb]
        rw [red]
        refine ⟨fun e => ?_, fun y e => ?_⟩
        · obtain ⟨M', e3, y3, z3⟩ := md.1 e
          exact ⟨M', e3, y3, (sm_mru (z1.trans z2)).trans z3⟩
        · obtain ⟨M', e3, h3, z3⟩ := md.2 y e
          exact ⟨M', e3, h3, (sm_mru (z1.trans z2)).trans z3⟩
end
