/-! orders: both sides agree, whole -/
section
variable {n : Nat} {E : zE} {B : Nat}
theorem ord_pre {S : zS} {M M1 M2 : zH} {tb : Nat → Int} {l : Nat} (hl : l ≤ 400) (t2 : mI M (B + 105) 13 = iI (l : Int)) (t3 : ∀ k, k < l → 0 ≤ tb k ∧ tb k < 256 ∧ mI M (B + 114) k = iI (tb k)) (hCo : ConR M B) (hA1 : zAg (odX B) M M1) (hA2 : zAg (rfX B) M1 M2) : TM (setI (setI M2 (B + 105) 0 (iI 0)) (B + 105) 52 (iI (-1))) B tb l ∧ ConR (setI (setI M2 (B + 105) 0 (iI 0)) (B + 105) 52 (iI (-1))) B := by
  have hA : zAg (fun b j => odX B b j ∨ rfX B b j ∨ (b = B + 105 ∧ (j = 0 ∨ j = 52))) M (setI (setI M2 (B + 105) 0 (iI 0)) (B + 105) 52 (iI (-1))) := (((hA1.mono (fun b j q => Or.inl q)).trans (hA2.mono (fun b j q => Or.inr (Or.inl q)))).setI (Or.inr (Or.inr ⟨rfl, Or.inl rfl⟩))).setI (Or.inr (Or.inr ⟨rfl, Or.inr rfl⟩))
  exact ⟨TM.to hl t2 t3 hA (by unfold odX rfX; omega) (fun j => by unfold odX rfX; omega), hCo.ag hA (fun j => by unfold odX rfX; omega) (fun b j hb => by unfold odX rfX; omega)⟩
/-- the model, from its row as it was -/
theorem ord_mod {S : zS} {M M1 M2 MM1 MM2 MM3 : zH} {N : Nt} {Ls : Nat → Lw} {T : Pst} (hn : 1000 ≤ n) (hS : ShOK S B) (hM : MN M B N Ls) (hP : PM M B T) (hJ : PJ N T) (hA1 : zAg (odX B) M M1) (hA2 : zAg (rfX B) M1 M2) {cl nc : Nat} {mo ma : Nat → Int} {D : Nat → Ds} (hcl : cl ≤ 12) (f1 : F_Mo_beginText n E S (B + 105) (bI true) (setI (setI M2 (B + 105) 0 (iI 0)) (B + 105) 52 (iI (-1))) = some MM1) (f2 : ((F_Mo_readOrder n E S (B + 105) MM1).bind fun q => F_Mo_orders_b19 n E S (B + 105, q)) = F_Mo_orders_b46 n E S (B + 105) MM2) (f3 : F_Mo_endText n E S (B + 105) MM2 = some MM3) (f4 : mI MM3 (B + 105) 19 = iI 0 ∧ mI MM3 (B + 105) 20 = iI 0 ∧ mI MM3 (B + 105) 13 = iI 0 ∧ mI MM3 (B + 105) 21 = iI (cl : Int) ∧ mI MM3 (B + 105) 18 = iI (-1)) (f5 : mI MM3 (B + 105) 23 = iI (nc : Int) ∧ nc ≤ 400 ∧ ∀ k, k < nc → mI MM3 (B + 116) k = iI (mo k) ∧ mI MM3 (B + 117) k = iI (ma k)) (f6 : cBd mo ma nc) (f7 : ∀ c, c < cl → QM MM3 B true mo ma nc c (D c)) (z3 : zAg (qmA B true) (setI (setI M2 (B + 105) 0 (iI 0)) (B + 105) 52 (iI (-1))) MM3) : F_Mo_orders n E S (B + 105) M2 = moT n E S B MM3 ∧ MN MM3 B N Ls ∧ PM MM3 B T ∧ MC MM3 B mo ma nc cl D ∧ mI MM3 (B + 105) 52 = iI (-1) ∧ zAg (omX B) M2 MM3 := by
  have hA3 : zAg (fun b j => b = B + 105 ∧ (j = 0 ∨ j = 52)) M2 (setI (setI M2 (B + 105) 0 (iI 0)) (B + 105) 52 (iI (-1))) := (zAg.rfl'.setI ⟨rfl, Or.inl rfl⟩).setI ⟨rfl, Or.inr rfl⟩
  have c52 : mI (setI (setI M2 (B + 105) 0 (iI 0)) (B + 105) 52 (iI (-1))) (B + 105) 52 = iI (-1) := mI_s
  rw [om_start hS, f1, obs, f2]
  generalize setI (setI M2 (B + 105) 0 (iI 0)) (B + 105) 52 (iI (-1)) = Mx at hA3 c52 z3
  have hA4 : zAg (fun b j => odX B b j ∨ rfX B b j ∨ (b = B + 105 ∧ (j = 0 ∨ j = 52)) ∨ qmA B true b j) M MM3 := (((hA1.mono (fun b j q => Or.inl q)).trans (hA2.mono (fun b j q => Or.inr (Or.inl q)))).trans (hA3.mono (fun b j q => Or.inr (Or.inr (Or.inl q))))).trans (z3.mono (fun b j q => Or.inr (Or.inr (Or.inr q))))
  have out : ∀ b j, b = B + 107 ∨ b = B + 110 ∨ b = B + 111 ∨ (b = B + 105 ∧ j = 8) → mI MM3 b j = mI M b j := fun b j hb => (hA4 b j (fun q => by
    rcases q with q | q | q | q
    · unfold odX at q; omega
    · unfold rfX at q; omega
    · omega
    · have := qmA_b q; omega)).1
  refine ⟨?_, hM.row f4.2.1 (fun j => out _ _ (by omega)), hP.same hJ.1 (out _ _ (by omega)) (fun j _ => out _ _ (by omega)) (fun j _ => out _ _ (by omega)), ⟨⟨f5.2.2, f6, f5.2.1⟩, f4.2.2.2.1, hcl, f7⟩, ?_, (hA3.mono (fun b j q => by unfold omX; omega)).trans (qm_om z3)⟩
  · unfold F_Mo_orders_b46 moT
    rw [hS.ck105, obs, f3, obs, hS.i105, obs, f4.1, if_pos (show iI 0 = 0 by decide)]
  · rw [(z3 _ _ (fun q => by have := qmA_b q; omega)).1]; exact c52
set_option maxHeartbeats 2000000 in
theorem ord_ok (hn : 100000 ≤ n) : OrdOK n E B := by
  intro S M h
  obtain ⟨hS, hz, ⟨N, Ls, hC, hM, hh, hP⟩, _, _, ⟨l, tb, hl, t1, t2, t3⟩, hMi, _, hCo⟩ := id h
  have hT : TC M B tb l := ⟨hl, t1, fun k hk => ⟨(t3 k hk).1, (t3 k hk).2.1, (t3 k hk).2.2.2⟩⟩
  have t3' : ∀ k, k < l → 0 ≤ tb k ∧ tb k < 256 ∧ mI M (B + 114) k = iI (tb k) := fun k hk => ⟨(t3 k hk).1, (t3 k hk).2.1, (t3 k hk).2.2.1⟩
  have hT0 : TC (setI M (B + 0) 18 (iI (-1))) B tb l := hT.ag (X := fun b _ => b = B + 0) (zAg.rfl'.setI (by rfl)) (by omega) (fun j => by omega)
  obtain ⟨Mp, hAp, res⟩ := ord_text (E := E) hS (by omega : 1000 ≤ n) hT0
  have hA0 : zAg (fun b j => taX B b j ∨ (b = B + 0 ∧ (j = 17 ∨ j = 18)) ∨ (b = B + 67 ∧ j = 1)) M (setI M (B + 0) 18 (iI (-1))) := zAg.rfl'.setI (Or.inr (Or.inl ⟨rfl, Or.inr rfl⟩))
  have hAq : ∀ v : Int32, zAg (fun b j => taX B b j ∨ (b = B + 0 ∧ (j = 17 ∨ j = 18)) ∨ (b = B + 67 ∧ j = 1)) M (setI (setI Mp (B + 0) 17 v) (B + 67) 1 (iI 0)) := fun v => ((hA0.trans (hAp.mono (fun b j q => Or.inl q))).setI (Or.inr (Or.inl ⟨rfl, Or.inl rfl⟩))).setI (Or.inr (Or.inr ⟨rfl, rfl⟩))
  have hAo : ∀ v : Int32, zAg (odX B) M (setI (setI Mp (B + 0) 17 v) (B + 67) 1 (iI 0)) := fun v => (hAq v).mono (fun b j q => by unfold taX at q; unfold odX; omega)
  have h17 : ∀ v : Int32, mI (setI (setI Mp (B + 0) 17 v) (B + 67) 1 (iI 0)) (B + 0) 17 = v := fun v => by rw [mI_a (by omega), mI_s]
  have h18 : ∀ v : Int32, mI (setI (setI Mp (B + 0) 17 v) (B + 67) 1 (iI 0)) (B + 0) 18 = iI (-1) := fun v => by rw [mI_a (by omega), mI_i (by decide), (hAp _ _ (by unfold taX; omega)).1, mI_s]
  have h67 : ∀ v : Int32, mI (setI (setI Mp (B + 0) 17 v) (B + 67) 1 (iI 0)) (B + 67) 1 = iI 0 := fun v => mI_s
  have hAx : ∀ v : Int32, zAg (fun b j => b = B + 0 ∨ b = B + 67) Mp (setI (setI Mp (B + 0) 17 v) (B + 67) 1 (iI 0)) := fun v => (zAg.rfl'.setI (Or.inl rfl)).setI (Or.inr rfl)
  rcases res with ⟨s', e1, l1, m1⟩ | ⟨s', st', len', pt', cl', D', e1, g1, q1, m1⟩
  · have hA1 := hAq (iI (s' : Int))
    have hO1 := hAo (iI (s' : Int))
    have k17 := h17 (iI (s' : Int))
    have k18 := h18 (iI (s' : Int))
    have k67 := h67 (iI (s' : Int))
    have ec := oc_start (n := n) (E := E) hS e1
    rw [if_neg (show ¬ iI (s' : Int) = -1 from ceqF (y := -1) (by omega) (by omega) (by omega) (by omega) (by omega))] at ec
    generalize setI (setI Mp (B + 0) 17 (iI (s' : Int))) (B + 67) 1 (iI 0) = Mq at hA1 hO1 k17 k18 k67 ec
    refine Ag1.ans (n := n) (E := E) h (v := -6) (Or.inr (by unfold isRf; omega)) ec (oc_gC hO1) (fun M2 hA2 => ?_)
    obtain ⟨hTM, hCo2⟩ := ord_pre (S := S) hl t2 t3' hCo hO1 hA2
    obtain ⟨MM1, MM2, MM3, f1, f2, f3, b3, ⟨y20, y13⟩, z3⟩ := m1 S hS _ hTM hCo2
    have hA3 : zAg (fun b j => b = B + 105 ∧ (j = 0 ∨ j = 52)) M2 (setI (setI M2 (B + 105) 0 (iI 0)) (B + 105) 52 (iI (-1))) := (zAg.rfl'.setI ⟨rfl, Or.inl rfl⟩).setI ⟨rfl, Or.inr rfl⟩
    have c52 : mI (setI (setI M2 (B + 105) 0 (iI 0)) (B + 105) 52 (iI (-1))) (B + 105) 52 = iI (-1) := mI_s
    have em : F_Mo_orders n E S (B + 105) M2 = F_Mo_tell n E S (B + 105) (iI (-6)) MM3 := by
      rw [om_start hS, f1, obs, f2]
      unfold F_Mo_orders_b46
      rw [hS.ck105, obs, f3, obs, hS.i105, obs, b3.1, if_neg (show ¬ iI 1 = 0 by decide), show (-6 : Int32) = iI (-6) by decide, bind_e]
    clear f1 f2 f3 hTM hCo2
    generalize setI (setI M2 (B + 105) 0 (iI 0)) (B + 105) 52 (iI (-1)) = Mx at hA3 c52 z3
    have hA4 : zAg (fun b j => (b = B + 105 ∧ (j = 0 ∨ j = 52)) ∨ qmA B true b j) M2 MM3 := (hA3.mono (fun b j q => Or.inl q)).trans (z3.mono (fun b j q => Or.inr q))
    have hA5 : zAg (lgX B true) M MM3 := ((hA1.mono (fun b j q => by unfold taX at q; unfold lgX taX; omega)).trans (hA2.mono (fun b j q => by unfold rfX at q; unfold lgX; omega))).trans (hA4.mono (fun b j q => q.elim (fun q => by unfold lgX; omega) (fun q => Or.inr (Or.inr (Or.inr (Or.inr (Or.inr q)))))))
    have back : ∀ b j, b = B + 0 ∧ j ≠ 15 ∨ b = B + 67 → mI MM3 b j = mI Mq b j := fun b j hb => by
      rw [(hA4 _ _ (fun q => by
        rcases q with q | q
        · omega
        · have := qmA_b q; omega)).1, (hA2 _ _ (by unfold rfX; omega)).1]
    refine ⟨MM3, em, hA4.mono (fun b j q => ?_), Now.txt h.2.2.1 hA5 y20, tape0 (by rw [back _ _ (by omega)]; exact k67) y13, ?_, ?_, ?_⟩
    · rcases q with q | q
      · unfold gM gX; omega
      · have := qmA_b q; unfold gM gX; omega
    · have a16 : mI MM3 (B + 0) 16 = mI M (B + 0) 16 := by rw [back _ _ (by omega), (hA1 _ _ (by unfold taX; omega)).1]
      rw [a16, (hA5 _ _ (fun q => by have := lgX_b q; omega)).1]; exact hMi.1.2.1
    · rw [back _ _ (by omega), k17, b3.2]
    · rw [back _ _ (by omega), k18, (z3 _ _ (fun q => by have := qmA_b q; omega)).1, c52]
  · have hA1 := hAq (iI (-1))
    have hO1 := hAo (iI (-1))
    have k17 := h17 (iI (-1))
    have k67 := h67 (iI (-1))
    have ec := oc_start (n := n) (E := E) hS e1
    rw [if_pos (show iI (-1) = -1 by decide)] at ec
    have hX : CX (setI (setI Mp (B + 0) 17 (iI (-1))) (B + 67) 1 (iI 0)) B st' len' pt' := g1.2.1.ag (hAx _) (by omega) (fun j => by omega)
    have h6 : mI (setI (setI Mp (B + 0) 17 (iI (-1))) (B + 67) 1 (iI 0)) (B + 70) 6 = iI (cl' : Int) := by rw [((hAx _) _ _ (by omega)).1]; exact g1.2.2.2.1
    have hQ : ∀ c, c < cl' → QC (setI (setI Mp (B + 0) 17 (iI (-1))) (B + 67) 1 (iI 0)) B true st' len' c (D' c) := fun c hc => (q1 c hc).fr (hAx _) (fun b j b1 b2 => by omega)
    have hcl : cl' ≤ 12 := g1.2.2.2.2
    generalize setI (setI Mp (B + 0) 17 (iI (-1))) (B + 67) 1 (iI 0) = Mq at hA1 hO1 k17 k67 ec hX h6 hQ
    obtain ⟨T, pC, pM, pJ⟩ := hP.out
    obtain ⟨wm, mk, hTR⟩ := tr_new hS hX h6 hcl hQ
    have hD : ∀ c, c < cl' → (0 ≤ (D' c).1 ∧ (D' c).1 ≤ 3 ∧ 1 ≤ (D' c).2.1 ∧ (D' c).2.1 ≤ 20) ∧ ∀ g, (D' c).2.2.2.2 = some g → tst g := fun c hc => by
      obtain ⟨mk, wm, q1, q2, q3, q4, q5, q6⟩ := hQ c hc
      refine ⟨q3, fun g hg => ?_⟩
      rw [hg] at q5
      exact q5.2.1
    obtain ⟨r1, r2⟩ := co_run (n := n) (E := E) (N := N) (Ls := Ls) (T := T) hS (by omega) (hC.ag hA1 (fun b j q => by unfold taX at q; omega)) (pC.ag hA1 (by unfold taX; omega) (fun j => by unfold taX; omega)) pJ hh hTR hcl (fun c hc => (hD c hc).1)
    cases hr : runO D' Ls cl' 0 (N, T, 0, -1) with
    | inl i =>
      obtain ⟨hi, M1, ea, hC1, hP1, k18, z1⟩ := r1 i hr
      have hO2 := hO1.trans (co_oc z1)
      have kk : ∀ b j, b = B + 0 ∧ j = 17 ∨ b = B + 67 → mI M1 b j = mI Mq b j := fun b j hb => (z1 _ _ (by unfold coX ruX dfX cScr; omega)).1
      refine ord_fin h (v := -3) (s := (i : Int)) (Or.inr (by unfold isRf; omega)) (ec.trans ea) hO2 hC1 hP1 pJ hh (by rw [kk _ _ (by omega)]; exact k17) k18 (by rw [kk _ _ (by omega)]; exact k67) (fun M2 hA2 => ?_)
      obtain ⟨hTM, hCo2⟩ := ord_pre (S := S) hl t2 t3' hCo hO2 hA2
      obtain ⟨MM1, MM2, MM3, mo3, ma3, nc3, f1, f2, f3, f4, f5, f6, f7, z3⟩ := m1 S hS _ hTM hCo2
      obtain ⟨em, hM3, hP3, hC3, k52, z4⟩ := ord_mod (E := E) (by omega : 1000 ≤ n) hS hM pM pJ hO2 hA2 hcl f1 f2 f3 f4 f5 f6 f7 z3
      obtain ⟨M3, e5, a5, b5, c5, z5⟩ := (mo_run (n := n) (E := E) hS (by omega) hM3 hP3 pJ hh hC3 hD).1 i hr
      exact ⟨M3, em.trans e5, a5, b5, ⟨c5, by rw [(z5 _ _ (by unfold moX; omega)).1]; exact f4.2.2.2.2, by rw [(z5 _ _ (by unfold moX; omega)).1]; exact f4.2.2.1⟩, z4.trans (mo_om z5)⟩
    | inr y =>
      obtain ⟨M1, ea, hC1, hP1, hO, k18, z1⟩ := r2 y hr
      have hO2 := hO1.trans (co_oc z1)
      have kk : ∀ b j, b = B + 0 ∧ j = 17 ∨ b = B + 67 → mI M1 b j = mI Mq b j := fun b j hb => (z1 _ _ (by unfold coX ruX dfX cScr; omega)).1
      refine ord_fin h (v := y.2.2.1) (s := -1) (Or.inl ⟨hO.2.2.2.1.1, by have := hO.2.2.2.1.2; omega⟩) (ec.trans ea) hO2 hC1 hP1 hO.1 hO.2.2.1 (by rw [kk _ _ (by omega)]; exact k17) k18 (by rw [kk _ _ (by omega)]; exact k67) (fun M2 hA2 => ?_)
      obtain ⟨hTM, hCo2⟩ := ord_pre (S := S) hl t2 t3' hCo hO2 hA2
      obtain ⟨MM1, MM2, MM3, mo3, ma3, nc3, f1, f2, f3, f4, f5, f6, f7, z3⟩ := m1 S hS _ hTM hCo2
      obtain ⟨em, hM3, hP3, hC3, k52, z4⟩ := ord_mod (E := E) (by omega : 1000 ≤ n) hS hM pM pJ hO2 hA2 hcl f1 f2 f3 f4 f5 f6 f7 z3
      obtain ⟨M3, e5, a5, b5, c5, z5⟩ := (mo_run (n := n) (E := E) hS (by omega) hM3 hP3 pJ hh hC3 hD).2 y hr
      exact ⟨M3, em.trans e5, a5, b5, ⟨c5.trans k52, by rw [(z5 _ _ (by unfold moX; omega)).1]; exact f4.2.2.2.2, by rw [(z5 _ _ (by unfold moX; omega)).1]; exact f4.2.2.1⟩, z4.trans (mo_om z5)⟩
end
