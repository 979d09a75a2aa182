/-! law: both sides agree, whole -/
section
variable {n : Nat} {E : zE} {B : Nat}
set_option maxHeartbeats 8000000 in
theorem law_ok (hn : 100000 ≤ n) : LawOK n E B := by
  intro S M h
  obtain ⟨hS, hz, ⟨N, Ls, hC, hM, hh, hP⟩, _, _, ⟨l, tb, hl, t1, t2, t3⟩, hMi, _, hCo⟩ := id h
  have hT : TC M B tb l := ⟨hl, t1, fun k hk => ⟨(t3 k hk).1, (t3 k hk).2.1, (t3 k hk).2.2.2⟩⟩
  have t3' : ∀ k, k < l → 0 ≤ tb k ∧ tb k < 256 ∧ mI M (B + 114) k = iI (tb k) := fun k hk => ⟨(t3 k hk).1, (t3 k hk).2.1, (t3 k hk).2.2.1⟩
  have nl := hC.2.1.nl
  have hI := nA1.ni hS
  have hr2 := hM.2.1.1.2.2.1
  by_cases c6 : N 13 0 = 6
  · refine law_bad hn h (v := -5) (by unfold isRf; omega) (M1 := setI M (B + 67) 1 (iI 0)) ?_ (zAg.rfl'.setI (by unfold gC gX; omega)) (fun M2 hA2 => ?_)
    · unfold F_NC_law
      rw [hS.g0_0, obs, hI.i13 hC.1, obs, show (6 : Int32) = iI 6 by decide, if_neg (cltF (by omega) (by omega) (by omega)), hS.g0_7, obs, iL0, hS.p67, obs]
      rfl
    · have hA3 : zAg (fun b j => (b = B + 67 ∧ j = 1) ∨ (b = B + 0 ∧ j = 15) ∨ b = B + 104 ∨ (b = B + 105 ∧ (j = 0 ∨ j = 13))) M (setI (setI M2 (B + 105) 0 (iI 0)) (B + 105) 13 (iI 0)) := (((zAg.rfl'.setI (by omega)).trans (hA2.mono (fun b j q => by unfold rfX at q; omega))).setI (by omega)).setI (by omega)
      have hA4 : zAg (fun b j => (b = B + 67 ∧ j = 1) ∨ (b = B + 0 ∧ j = 15) ∨ b = B + 104 ∨ (b = B + 105 ∧ j = 0)) M (setI M2 (B + 105) 0 (iI 0)) := ((zAg.rfl'.setI (by omega)).trans (hA2.mono (fun b j q => by unfold rfX at q; omega))).setI (by omega)
      refine ⟨setI (setI M2 (B + 105) 0 (iI 0)) (B + 105) 13 (iI 0), ?_, (zAg.rfl'.setI (by unfold gM gX; omega)).setI (by unfold gM gX; omega), Now.txt (ord := false) h.2.2.1 (hA3.mono (fun b j q => by unfold lgX qmA psB; omega)) (by rw [(hA3 _ _ (by omega)).1]; exact hM.1), tape0 ?_ mI_s, Msc.of h hA3 (fun j j1 j2 => by omega) (fun j hj => by omega)⟩
      · unfold F_Mo_law
        rw [iL0, hS.p105, obs, hS.g105_3, obs, show (2 : Int32) = iI 2 by decide, hS.r107 (by omega) (by omega), obs, show (2 : Int).toNat = 2 from rfl, (hA4 _ _ (by omega)).1, hr2, c6, if_pos (show iI 6 = 6 by decide), hS.p105, obs, show (-5 : Int32) = iI (-5) by decide, bind_e]
      · rw [mI_a (by omega), mI_a (by omega), (hA2 _ _ (by unfold rfX; omega)).1, mI_s]
  · have hr2' : ¬ iI (N 13 0) = 6 := ceqF (y := 6) c6 (by omega) (by omega) (by omega) (by omega)
    obtain ⟨Mp, hAp, res⟩ := law_text (E := E) hS (by omega : 1000 ≤ n) hT
    have cred : ∀ v : Int32, F_Ps_parse n E S (B + 69) (bI false) M = some (v, Mp) → F_NC_law n E (B + 0) S M = if v = -1 then (F_Te_copy n E (B + 70) S (setI (setI Mp (B + 0) 17 v) (B + 67) 1 (iI 0))).bind fun q_14 => (zck q_14.2.1 (B + 1) 3).bind fun u_15 => (F_Ni_addLaw n E q_14.2.1 (B + 1) q_14.1 q_14.2.2).bind fun q_16 => (zck q_14.2.1 (B + 0) 10).bind fun u_17 => (F_NC_accept n E q_14.2.1 (B + 0) q_16.1 q_16.2).bind fun q_18 => some (q_18.1, q_14.2.1, q_18.2) else (F_NC_refuse n E S (B + 0) (iI (-6)) (setI (setI Mp (B + 0) 17 v) (B + 67) 1 (iI 0))).bind fun q_19 => some (q_19.1, S, q_19.2) := fun v e => by
      unfold F_NC_law
      rw [hS.g0_0, obs, hI.i13 hC.1, obs, show (6 : Int32) = iI 6 by decide, if_pos (cltT (by omega) (by omega) (by omega)), hS.g0_8, obs, hS.ck69, obs, show (0 : Int32) = bI false from rfl, e, obs, hS.p0, obs, hS.g0_7, obs, show bI false = iI 0 from rfl, hS.p67, obs, hS.i0, obs, mI_a (by omega), mI_s, hS.g69_0, obs, hS.ck70, obs]
      rfl
    have hAq : ∀ v : Int32, zAg (fun b j => taX B b j ∨ (b = B + 0 ∧ j = 17) ∨ (b = B + 67 ∧ j = 1)) M (setI (setI Mp (B + 0) 17 v) (B + 67) 1 (iI 0)) := fun v => ((hAp.mono (fun b j q => Or.inl q)).setI (by omega)).setI (by omega)
    have mred : ∀ (S' : zS) (M2 : zH), ShOK S' B → mI M2 (B + 107) 2 = iI (N 13 0) → F_Mo_law n E S' (B + 105) M2 = (F_Mo_beginText n E S' (B + 105) (bI false) (setI M2 (B + 105) 0 (iI 0))).bind fun q_42 => (F_Mo_readLaw n E S' (B + 105) q_42).bind fun q_43 => F_Mo_law_b37 n E S' (B + 105, q_43) := fun S' M2 hS' h2 => by
      unfold F_Mo_law
      rw [iL0, hS'.p105, obs, hS'.g105_3, obs, show (2 : Int32) = iI 2 by decide, hS'.r107 (by omega) (by omega), obs, show (2 : Int).toNat = 2 from rfl, mI_a (by omega), h2, if_neg hr2']
      rfl
    rcases res with ⟨s', e1, l1, m1⟩ | ⟨s', st', len', pt', cl', D', e1, g1, q1, m1⟩
    · refine law_bad hn h (v := -6) (by unfold isRf; omega) (M1 := setI (setI Mp (B + 0) 17 (iI (s' : Int))) (B + 67) 1 (iI 0)) ?_ ((hAq _).mono (fun b j q => by unfold taX at q; unfold gC gX; omega)) (fun M2 hA2 => ?_)
      · rw [cred _ e1, if_neg (show ¬ iI (s' : Int) = -1 from ceqF (y := -1) (by omega) (by omega) (by omega) (by omega) (by omega))]
      · have hA3 : zAg (fun b j => taX B b j ∨ (b = B + 0 ∧ (j = 15 ∨ j = 17)) ∨ (b = B + 67 ∧ j = 1) ∨ b = B + 104 ∨ (b = B + 105 ∧ j = 0)) M (setI M2 (B + 105) 0 (iI 0)) := (((hAq _).mono (fun b j q => by unfold taX at q ⊢; omega)).trans (hA2.mono (fun b j q => by unfold rfX at q; unfold taX; omega))).setI (by omega)
        have hTM : TM (setI M2 (B + 105) 0 (iI 0)) B tb l := TM.to hl t2 t3' hA3 (by unfold taX; omega) (fun j => by unfold taX; omega)
        have hCo2 : ConR (setI M2 (B + 105) 0 (iI 0)) B := hCo.ag hA3 (fun j => by unfold taX; omega) (fun b j hb => by unfold taX; omega)
        obtain ⟨MM1, MM2, MM3, f1, f2, f3, b3, ⟨y20, y13⟩, z3⟩ := m1 S hS _ hTM hCo2
        have hA4 : zAg (lgX B false) M MM3 := (hA3.mono (fun b j q => by unfold taX at q; unfold lgX taX; omega)).trans (z3.mono (fun b j q => Or.inr (Or.inr (Or.inr (Or.inr (Or.inr q))))))
        have q67 : mI MM3 (B + 67) 1 = iI 0 := by rw [(z3 _ _ (fun q => by have := qmA_b q; omega)).1, mI_a (by omega), (hA2 _ _ (by unfold rfX; omega)).1, mI_s]
        refine ⟨MM3, ?_, (zAg.rfl'.setI (by unfold gM gX; omega)).trans (z3.mono (fun b j q => by have := qmA_b q; unfold gM gX; omega)), Now.txt h.2.2.1 hA4 y20, tape0 q67 y13, ?_, ?_, ?_⟩
        · rw [mred S M2 hS (by rw [(hA2 _ _ (by unfold rfX; omega)).1, (hAq _ _ _ (by unfold taX; omega)).1]; exact hr2), f1, obs, f2]
          unfold F_Mo_law_b64
          rw [hS.ck105, obs, f3, obs, hS.i105, obs, b3.1, iL0, if_neg (show ¬ iI 1 = iI 0 by decide), show (-6 : Int32) = iI (-6) by decide, bind_e]
        · rw [(z3 _ _ (fun q => by have := qmA_b q; omega)).1, (z3 _ _ (fun q => by have := qmA_b q; omega)).1, (hA3 _ _ (by unfold taX; omega)).1, (hA3 _ _ (by unfold taX; omega)).1]; exact hMi.1.2.1
        · rw [b3.2, (z3 _ _ (fun q => by have := qmA_b q; omega)).1, mI_a (by omega), (hA2 _ _ (by unfold rfX; omega)).1, mI_a (by omega), mI_s]
        · rw [(z3 _ _ (fun q => by have := qmA_b q; omega)).1, (z3 _ _ (fun q => by have := qmA_b q; omega)).1, (hA3 _ _ (by unfold taX; omega)).1, (hA3 _ _ (by unfold taX; omega)).1]; exact hMi.1.2.2.2
    · have m20 : 0 ≤ N 13 0 := nl.1
      refine law_new hn h hC hM hh hP (by omega) (Mq := setI (setI Mp (B + 0) 17 (iI (-1))) (B + 67) 1 (iI 0)) (hAq _) (by rw [mI_a (by omega), mI_s]) mI_s (st := st') (len := len') (pt := pt') (cl := cl') (D := D') (g1.2.1.ag (X := fun b j => b = B + 0 ∨ b = B + 67) ((zAg.rfl'.setI (by omega)).setI (by omega)) (by omega) (fun j => by omega)) (by rw [mI_a (by omega), mI_a (by omega)]; exact g1.2.2.2.1) g1.2.2.2.2 (fun c hc => (q1 c hc).fr (X := fun b j => b = B + 0 ∨ b = B + 67) ((zAg.rfl'.setI (by omega)).setI (by omega)) (fun b j b1 b2 => by omega)) ?_ (fun S' M2 hS' hA2 => ?_)
      · rw [cred _ e1, if_pos (show iI (-1) = -1 by decide)]
      · have hA3 : zAg (fun b j => taX B b j ∨ (b = B + 0 ∧ (j = 15 ∨ j = 17)) ∨ (b = B + 67 ∧ j = 1) ∨ (B + 1 ≤ b ∧ b ≤ B + 12) ∨ b = B + 104 ∨ sZ S ≤ b ∨ (b = B + 105 ∧ j = 0)) M (setI M2 (B + 105) 0 (iI 0)) := (hA2.mono (fun b j q => by unfold taX at q ⊢; omega)).setI (by omega)
        have hTM : TM (setI M2 (B + 105) 0 (iI 0)) B tb l := TM.to hl t2 t3' hA3 (by unfold taX; omega) (fun j => by unfold taX; omega)
        have hCo2 : ConR (setI M2 (B + 105) 0 (iI 0)) B := hCo.ag hA3 (fun j => by unfold taX; omega) (fun b j hb => by unfold taX; omega)
        obtain ⟨MM1, MM2, MM3, mo3, ma3, nc3, f1, f2, f3, f4, f5, f6, f7, z3⟩ := m1 S' hS' _ hTM hCo2
        refine ⟨MM2, MM3, mo3, ma3, nc3, ?_, f3, f4, f5, f6, f7, (zAg.rfl'.setI (Or.inl ⟨rfl, rfl⟩)).trans (z3.mono (fun b j q => Or.inr q))⟩
        rw [mred S' M2 hS' (by rw [(hA2 _ _ (by unfold taX; omega)).1]; exact hr2), f1, obs, f2]
end
