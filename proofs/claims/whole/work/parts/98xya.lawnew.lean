/-! law: both sides agree, whole -/
theorem bind_e {α β : Type} (x : Option (α × β)) : (x.bind fun q => some (q.1, q.2)) = x := by cases x <;> rfl
section
variable {n : Nat} {E : zE} {S : zS} {M M' : zH} {B : Nat}
theorem TM.to {tb : Nat → Int} {l : Nat} (h1 : l ≤ 400) (h2 : mI M (B + 105) 13 = iI (l : Int)) (h3 : ∀ k, k < l → 0 ≤ tb k ∧ tb k < 256 ∧ mI M (B + 114) k = iI (tb k)) {X : Nat → Nat → Prop} (hA : zAg X M M') (q1 : ¬ X (B + 105) 13) (q2 : ∀ j, ¬ X (B + 114) j) : TM M' B tb l := ⟨h1, by rw [(hA _ _ q1).1]; exact h2, fun k hk => by rw [(hA _ _ (q2 k)).1]; exact h3 k hk⟩
/-- no room, or a bad text -/
theorem law_bad (hn : 100000 ≤ n) (h : Inv S M B) {v : Int} (hv : isRf v) {M1 : zH} (e1 : F_NC_law n E (B + 0) S M = (F_NC_refuse n E S (B + 0) (iI v) M1).bind fun q => some (q.1, S, q.2)) (hA1 : zAg (gC B) M M1) (e2 : ∀ M2, zAg (rfX B) M1 M2 → ∃ M3, F_Mo_law n E S (B + 105) M2 = F_Mo_tell n E S (B + 105) (iI v) M3 ∧ zAg (gM B) M2 M3 ∧ Now S M3 B ∧ TapeR M3 B ∧ Msc M3 B) : ∃ r S1 M1 M2, F_NC_law n E (B + 0) S M = some (r, S1, M1) ∧ F_Mo_law n E S1 (B + 105) M1 = some (r, M2) ∧ Inv S1 M2 B := by
  obtain ⟨r, M2, M3, f1, f2, hI⟩ := Ag1.ans (n := n) (E := E) (f := fun _ => F_NC_answered n E S (B + 0) (iI v) M1) (g := fun M => F_Mo_law n E S (B + 105) M) h (Or.inr hv) rfl hA1 e2
  dsimp only at f1 f2
  rw [ans_rf h.1 hv] at f1
  exact ⟨r, S, M2, M3, by rw [e1, f1, obs], f2, hI⟩
theorem now_new {S1 : zS} {N : Nt} {Ls : Nat → Lw} {L : Lw} {t j : Nat} (hC : CN S M B (B + 1) N Ls) (hE : shE S S1) (hz : B + 136 ≤ sZ S) (ht : sZ S = t) (hz1 : sZ S1 = t + 6) (hk : sK S1 t = 9) (hj : N 13 0 = (j : Int)) (hj6 : j < 6) (hRn : NiR M' (B + 1) (nset N 13 0 ((j : Int) + 1))) (R12 : ∀ i, mR M' (B + 1 + 11) i = if i = j then some t else mR M (B + 1 + 11) i) (hTx : TxR S1 M' t L) (hA8 : zAg (fun b _ => b < B + 136 ∨ t ≤ b) M M') : CN S1 M' B (B + 1) (nset N 13 0 ((j : Int) + 1)) (fun i => if i = j then L else Ls i) := by
  refine ⟨hRn, hC.2.1.s13 (by omega) (by omega) (by have := hC.2.1.fo; omega), fun i hi => ?_⟩
  rw [R12]
  by_cases q : i = j
  · rw [if_pos q]
    refine ⟨fun t' e => ?_, fun _ => ⟨t, by omega, rfl, ?_⟩⟩
    · have := Option.some.inj e
      rw [← this]
      exact ⟨hk, by omega⟩
    · dsimp only
      rw [if_pos q]
      exact hTx
  · rw [if_neg q]
    refine ⟨fun t' e => ?_, fun hl => ?_⟩
    · obtain ⟨a1, a2⟩ := (hC.2.2 i hi).1 t' e
      have := hE.1
      exact ⟨(hE.2 t' (by omega)).1.trans a1, by omega⟩
    · have hl' : (i : Int) < (j : Int) + 1 := hl
      obtain ⟨t', a1, a2, a3⟩ := (hC.2.2 i hi).2 (by omega)
      have a4 := ((hC.2.2 i hi).1 t' a2).2
      dsimp only
      rw [if_neg q]
      exact ⟨t', a1, a2, (a3.ex a4 hE zAg.rfl').ag hA8 (fun b i q1 q2 => by omega)⟩
set_option maxHeartbeats 4000000 in
/-- a new law -/
theorem law_new (hn : 100000 ≤ n) (h : Inv S M B) {N : Nt} {Ls : Nat → Lw} (hC : CN S M B (B + 1) N Ls) (hM : MN M B N Ls) (hh : N 9 0 ≤ 999) (hP : PastR M B N) (c6 : N 13 0 < 6) {Mq : zH} (hAq : zAg (fun b j => taX B b j ∨ (b = B + 0 ∧ j = 17) ∨ (b = B + 67 ∧ j = 1)) M Mq) (h17 : mI Mq (B + 0) 17 = iI (-1)) (h67 : mI Mq (B + 67) 1 = iI 0) {st : Nat → Int} {len pt cl : Nat} {D : Nat → Ds} (hX : CX Mq B st len pt) (h6 : mI Mq (B + 70) 6 = iI (cl : Int)) (hc : cl ≤ 12) (hQ : ∀ c, c < cl → QC Mq B false st len c (D c))
  (cr : F_NC_law n E (B + 0) S M = (F_Te_copy n E (B + 70) S Mq).bind fun q_14 => (zck q_14.2.1 (B + 1) 3).bind fun u_15 => (F_Ni_addLaw n E q_14.2.1 (B + 1) q_14.1 q_14.2.2).bind fun q_16 => (zck q_14.2.1 (B + 0) 10).bind fun u_17 => (F_NC_accept n E q_14.2.1 (B + 0) q_16.1 q_16.2).bind fun q_18 => some (q_18.1, q_14.2.1, q_18.2))
  (md : ∀ (S' : zS) (M2 : zH), ShOK S' B → zAg (fun b j => taX B b j ∨ (b = B + 0 ∧ (j = 15 ∨ j = 17)) ∨ (b = B + 67 ∧ j = 1) ∨ (B + 1 ≤ b ∧ b ≤ B + 12) ∨ b = B + 104 ∨ sZ S ≤ b) M M2 → ∃ (MM' MM'' : zH) (mo' ma' : Nat → Int) (nc' : Nat), F_Mo_law n E S' (B + 105) M2 = F_Mo_law_b64 n E S' (B + 105) MM' ∧ F_Mo_endText n E S' (B + 105) MM' = some MM'' ∧ (mI MM'' (B + 105) 19 = iI 0 ∧ mI MM'' (B + 105) 20 = iI 0 ∧ mI MM'' (B + 105) 13 = iI 0 ∧ mI MM'' (B + 105) 21 = iI (cl : Int) ∧ mI MM'' (B + 105) 18 = iI (-1)) ∧ (mI MM'' (B + 105) 23 = iI (nc' : Int) ∧ nc' ≤ 400 ∧ ∀ k, k < nc' → mI MM'' (B + 116) k = iI (mo' k) ∧ mI MM'' (B + 117) k = iI (ma' k)) ∧ cBd mo' ma' nc' ∧ (∀ c, c < cl → QM MM'' B false mo' ma' nc' c (D c)) ∧ zAg (fun b j => (b = B + 105 ∧ j = 0) ∨ qmA B false b j) M2 MM'') :
  ∃ r S1 M1 M2, F_NC_law n E (B + 0) S M = some (r, S1, M1) ∧ F_Mo_law n E S1 (B + 105) M1 = some (r, M2) ∧ Inv S1 M2 B := by
  have hS := h.1
  have hz := h.2.1
  have nl := hC.2.1.nl
  obtain ⟨j, hj⟩ : ∃ j : Nat, N 13 0 = (j : Int) := ⟨(N 13 0).toNat, by omega⟩
  have hj6 : j < 6 := by omega
  obtain ⟨S1, Mc, e1, p1, g5, g6⟩ := s_copyT (n := n) (E := E) hS hz rfl hX.1.2.1 hX.1.1
  generalize ht : sZ S = t at *
  have hS1 := hS.ex (by omega) p1.1
  have hI1 := nA1.ni hS1
  have hA1 : zAg (fun b j => taX B b j ∨ (b = B + 0 ∧ j = 17) ∨ (b = B + 67 ∧ j = 1) ∨ t ≤ b) M Mc := (hAq.mono (fun b j q => by unfold taX at q ⊢; omega)).trans (p1.2.2.2.2.1.mono (fun b j q => by unfold newX at q; unfold taX; omega))
  have hR : NiR Mc (B + 1) N := hC.1.ag hA1 (fun b j q1 q2 => by unfold taX; omega)
  have k12 : sK S1 (B + 1 + 1 + 10) = 16 ∧ sN S1 (B + 1 + 1 + 10) = 6 := (hI1.2 10 (by decide)).2
  have ez : zstR S1 Mc 16 9 (B + 1 + 1 + 10) (iI (j : Int)) t = some (setR Mc (B + 12) j (some t)) := by
    unfold zstR
    rw [if_pos ⟨k12.1, p1.2.2.1, by rw [k12.2]; exact pi_ix (by omega) (by omega) (by omega)⟩, iI_clamp (by omega) (by omega), Int.toNat_natCast]
  have r13 : ∀ (M' : zH), mI M' (B + 1) 13 = iI (j : Int) → zgI S1 M' (B + 1) 3 13 = some (iI (j : Int)) := fun M' e => by rw [pz_gI hI1.1, e]
  have c13 : mI Mc (B + 1) 13 = iI (j : Int) := by rw [hR.2 13 (by decide) (by decide), hj]
  have eadd : F_Ni_addLaw n E S1 (B + 1) t Mc = some (iI (j : Int), setI (setR Mc (B + 12) j (some t)) (B + 1) 13 (iI ((j : Int) + 1))) := by
    unfold F_Ni_addLaw
    rw [r13 Mc c13, obs, show (6 : Int32) = iI 6 by decide, if_pos (cltT (by omega) (by omega) (by omega)), hI1.g10, obs, obs, ez, obs, r13 (setR Mc (B + 12) j (some t)) c13, obs, iL1, iI_add, hI1.p13, obs, pz_gI hI1.1, obs, mI_s, iI_sub, show (j : Int) + 1 - 1 = (j : Int) by omega]
  have hA2 : zAg (fun b i => taX B b i ∨ (b = B + 0 ∧ i = 17) ∨ (b = B + 67 ∧ i = 1) ∨ (b = B + 1 ∧ i = 13) ∨ (b = B + 12 ∧ i = j) ∨ t ≤ b) M (setI (setR Mc (B + 12) j (some t)) (B + 1) 13 (iI ((j : Int) + 1))) := ((hA1.mono (fun b j q => by unfold taX at q ⊢; omega)).setR (by omega)).setI (by omega)
  have m13 : mI (setI (setR Mc (B + 12) j (some t)) (B + 1) 13 (iI ((j : Int) + 1))) (B + 1) 13 = iI ((j : Int) + 1) := mI_s
  have m12 : ∀ i, mR (setI (setR Mc (B + 12) j (some t)) (B + 1) 13 (iI ((j : Int) + 1))) (B + 12) i = if i = j then some t else mR M (B + 12) i := fun i => by
    rw [mR_setI, mR_ite]
    by_cases q : i = j
    · rw [if_pos ⟨rfl, q⟩, if_pos q]
    · rw [if_neg (fun z => q z.2), if_neg q, (hA1 _ _ (by unfold taX; omega)).2.2]
  have mt : ∀ b i, t ≤ b → mI (setI (setR Mc (B + 12) j (some t)) (B + 1) 13 (iI ((j : Int) + 1))) b i = mI Mc b i := fun b i hb => by rw [mI_a (by omega), mI_setR]
  have mq : ∀ i, mI (setI (setR Mc (B + 12) j (some t)) (B + 1) 13 (iI ((j : Int) + 1))) (B + 0) i = mI Mq (B + 0) i := fun i => by rw [mI_a (by omega), mI_setR, (p1.2.2.2.2.1 _ _ (by unfold newX; omega)).1]
  have mq67 : mI (setI (setR Mc (B + 12) j (some t)) (B + 1) 13 (iI ((j : Int) + 1))) (B + 67) 1 = iI 0 := by rw [mI_a (by omega), mI_setR, (p1.2.2.2.2.1 _ _ (by unfold newX; omega)).1]; exact h67
  have hR1 : NiR (setI (setR Mc (B + 12) j (some t)) (B + 1) 13 (iI ((j : Int) + 1))) (B + 1) (nset N 13 0 ((j : Int) + 1)) := by
    have hR' : NiR (setR Mc (B + 12) j (some t)) (B + 1) N := hR
    exact hR'.setF 13 (by decide) (by decide) ((j : Int) + 1)
  have hTx := tx_new (M := Mq) (M1 := Mc) (M2 := setI (setR Mc (B + 12) j (some t)) (B + 1) 13 (iI ((j : Int) + 1))) (D := D) (by omega) ht hX h6 hc hQ p1 g5 g6 ((zAg.rfl'.setR (by omega)).setI (by omega))
  generalize setI (setR Mc (B + 12) j (some t)) (B + 1) 13 (iI ((j : Int) + 1)) = M1 at eadd hA2 m13 m12 mt mq mq67 hR1 hTx
  have hE : shE S S1 := p1.1
  -- the heap that has the new cells already
  have hAx : zAg (newX S) M (fun b i => if t ≤ b then mI M1 b i else mI M b i, fun b i => if t ≤ b then mJ M1 b i else mJ M b i, fun b i => if t ≤ b then mR M1 b i else mR M b i) := fun b i q => by
    have hb : ¬ t ≤ b := fun z => q (by unfold newX; omega)
    exact ⟨if_neg hb, if_neg hb, if_neg hb⟩
  have hx := h.ex hE hAx
  have hA3 : zAg (gC B) (fun b i => if t ≤ b then mI M1 b i else mI M b i, fun b i => if t ≤ b then mJ M1 b i else mJ M b i, fun b i => if t ≤ b then mR M1 b i else mR M b i) M1 := fun b i q => by
    by_cases hb : t ≤ b
    · exact ⟨(if_pos hb).symm, (if_pos hb).symm, (if_pos hb).symm⟩
    · obtain ⟨a1, a2, a3⟩ := hA2 b i (fun z => q (by unfold taX at z; unfold gC gX; omega))
      exact ⟨a1.trans (if_neg hb).symm, a2.trans (if_neg hb).symm, a3.trans (if_neg hb).symm⟩
  generalize ((fun b i => if t ≤ b then mI M1 b i else mI M b i, fun b i => if t ≤ b then mJ M1 b i else mJ M b i, fun b i => if t ≤ b then mR M1 b i else mR M b i) : zH) = Mx at hAx hx hA3
  obtain ⟨r, M2, M3, f1, f2, hI⟩ := Ag1.ans (n := n) (E := E) (f := fun _ => F_NC_answered n E S1 (B + 0) (iI (j : Int)) M1) (g := fun M => F_Mo_law n E S1 (B + 105) M) hx (Or.inl ⟨by omega, by omega⟩) rfl hA3 (fun M2 hA4 => by
    have hA5 : zAg (fun b j => taX B b j ∨ (b = B + 0 ∧ (j = 15 ∨ j = 17)) ∨ (b = B + 67 ∧ j = 1) ∨ (B + 1 ≤ b ∧ b ≤ B + 12) ∨ b = B + 104 ∨ t ≤ b) M M2 := (hA2.mono (fun b j q => by unfold taX at q ⊢; omega)).trans (hA4.mono (fun b j q => by unfold rfX at q; unfold taX; omega))
    obtain ⟨MM1, MM2, mo, ma, nc, d1, d2, ⟨d19, d20, d13, d21, d18⟩, ⟨d23, dn, dc⟩, db, dq, dz⟩ := md S1 M2 hS1 hA5
    have row : ∀ i, mI MM2 (B + 107) i = mI M (B + 107) i := fun i => by
      rw [(dz _ _ (fun q => by
        rcases q with q | q
        · omega
        · have := qmA_b q; omega)).1, (hA5 _ _ (by unfold taX; omega)).1]
    have r2 : mI MM2 (B + 107) 2 = iI (j : Int) := by rw [row, hM.2.1.1.2.2.1, hj]
    have w1 : 80 + 900 * j ≤ 4580 := by omega
    obtain ⟨MM3, l1, l2, l3⟩ := lp110 (n := n) (E := E) hS1 (cl := cl) (x := 80 + 900 * j) hc w1 (8 * cl) 0 n (setI MM2 (B + 107) (80 + 900 * j + 1) (iI (cl : Int))) (by omega) (by omega) (by rw [mI_a (by omega)]; exact d21)
    have c23 : mI MM3 (B + 105) 23 = iI (nc : Int) := by rw [(l3 _ _ (by omega)).1, mI_a (by omega)]; exact d23
    have c2 : mI MM3 (B + 107) 2 = iI (j : Int) := by rw [(l3 _ _ (by omega)).1, mI_i (by omega)]; exact r2
    obtain ⟨MM4, v1, v2, v3, v4⟩ := lp145 (n := n) (E := E) hS1 (nc := nc) (x := 80 + 900 * j) (j := j) dn w1 (by omega) hj6 nc 0 n MM3 (by omega) (by omega) c23 c2
    have hA6 : zAg (fun b i => b = B + 107 ∧ (i = 2 ∨ (80 + 900 * j ≤ i ∧ i < 80 + 900 * j + 900))) MM2 MM4 := ((zAg.rfl'.setI ⟨rfl, Or.inr (by omega)⟩).trans (l3.mono (fun b i q => by omega))).trans (v4.mono (fun b i q => by omega))
    have fin : ∀ b i, b ≠ B + 107 → (b = B + 105 → i ≠ 0) → ¬ qmA B false b i → mI MM4 b i = mI M2 b i := fun b i h1 h2 h3 => by
      rw [(hA6 _ _ (fun q => h1 q.1)).1]
      exact (dz _ _ (fun q => by
        rcases q with q | q
        · exact h2 q.1 q.2
        · exact h3 q)).1
    have hA7 : zAg (fun b i => (b = B + 0 ∧ i = 15) ∨ b = B + 104 ∨ (b = B + 105 ∧ (i = 0 ∨ (13 ≤ i ∧ i ≤ 21) ∨ i = 23 ∨ i = 26 ∨ i = 29 ∨ i = 30)) ∨ (B + 115 ≤ b ∧ b ≤ B + 119) ∨ b = B + 134 ∨ b = B + 107) M1 MM4 := ((hA4.mono (fun b i q => by unfold rfX at q; omega)).trans (dz.mono (fun b i q => by
      rcases q with q | q
      · omega
      · have := qmA_b q; omega))).trans (hA6.mono (fun b i q => by omega))
    have hA8 : zAg (fun b i => (b = B + 0 ∧ (i = 15 ∨ i = 17)) ∨ (b = B + 1 ∧ i = 13) ∨ (b = B + 12 ∧ i = j) ∨ (B + 67 ≤ b ∧ b ≤ B + 75 ∧ b ≠ B + 68) ∨ t ≤ b ∨ b = B + 104 ∨ (b = B + 105 ∧ (i = 0 ∨ (13 ≤ i ∧ i ≤ 21) ∨ i = 23 ∨ i = 26 ∨ i = 29 ∨ i = 30)) ∨ (B + 115 ≤ b ∧ b ≤ B + 119) ∨ b = B + 134 ∨ b = B + 107) M MM4 := (hA2.mono (fun b i q => by unfold taX at q; omega)).trans (hA7.mono (fun b i q => by omega))
    have R12 : ∀ i, mR MM4 (B + 1 + 11) i = if i = j then some t else mR M (B + 1 + 11) i := fun i => (hA7 (B + 12) i (by omega)).2.2.trans (m12 i)
    refine ⟨MM4, ?_, ?_, ?_, ?_, ?_⟩
    · rw [d1]
      unfold F_Mo_law_b64
      rw [hS1.ck105, obs, d2, obs, hS1.i105, obs, d19, iL0, if_pos rfl, hS1.g105_3, obs, show (2 : Int32) = iI 2 by decide, hS1.r107 (by omega) (by omega), obs, show (2 : Int).toNat = 2 from rfl, r2, hS1.i105, obs, d21, show (80 : Int32) = iI 80 by decide, show (900 : Int32) = iI 900 by decide, iI_mul, iI_add, iL1, iI_add, hS1.w107 (by omega) (by omega), obs, show ((80 : Int) + 900 * (j : Int) + 1).toNat = 80 + 900 * j + 1 by omega, show (80 : Int) + 900 * (j : Int) = ((80 + 900 * j : Nat) : Int) by omega]
      exact l1.trans v1
    · exact (dz.mono (fun b i q => by
        rcases q with q | q
        · unfold gM gX; omega
        · have := qmA_b q; unfold gM gX; omega)).trans (hA6.mono (fun b i q => by unfold gM gX; omega))
    · have nd := hC.2.1.s13 (v := (j : Int) + 1) (by omega) (by omega) (by have := hC.2.1.fo; omega)
      refine ⟨nset N 13 0 ((j : Int) + 1), fun i => if i = j then (cl, fun c => (D c).1, fun c w => cvA (D c) w) else Ls i, now_new hC hE (by omega) ht (by have := p1.2.1; omega) p1.2.2.1 hj hj6 (hR1.ag hA7 (fun b i q1 q2 => by omega)) R12 (hTx.ag hA7 (fun b i q1 q2 => by omega)) (hA8.mono (fun b i q => by omega)), ⟨by rw [(hA6 _ _ (by omega)).1]; exact d20, hM.2.1.la (R' := mI MM4 (B + 107)) v3 (fun i i1 i2 => by rw [(hA6 _ _ (by omega)).1]; exact row i), nd, fun i hi hil => ?_⟩, hh, (hP.ag hA8 (by omega) (fun j => by omega) (by omega) (fun j _ => by omega) (fun j => by omega)).cg ⟨fun _ _ => rfl, fun _ _ => rfl, fun _ _ => rfl, fun _ _ => rfl, fun _ _ => rfl, fun _ _ => rfl, fun _ _ => rfl, rfl⟩⟩
      · have hl' : (i : Int) < (j : Int) + 1 := hil
        dsimp only
        by_cases q : i = j
        · rw [if_pos q, q]
          refine rw_new (M := Mq) (M2 := MM2) hc dn db dq hQ ?_ (fun i hi => ?_) (fun k hk => ?_)
          · rw [(v4 _ _ (by omega)).1, (l3 _ _ (by omega)).1, mI_s]
          · rw [(v4 _ _ (by omega)).1, l2 i (by omega) hi, mI_a (by omega)]
          · rw [(v2 k (by omega) hk).1, (v2 k (by omega) hk).2, (l3 _ _ (by omega)).1, (l3 _ _ (by omega)).1, mI_a (by omega), mI_a (by omega)]
            exact dc k hk
        · rw [if_neg q]
          exact (hM.2.2.2 i hi (by omega)).cg (fun k k1 k2 => by rw [(hA6 _ _ (by omega)).1]; exact row k)
    · exact tape0 (by rw [fin _ _ (by omega) (by omega) (fun q => by have := qmA_b q; omega), (hA4 _ _ (by unfold rfX; omega)).1]; exact mq67) (by rw [(hA6 _ _ (by omega)).1]; exact d13)
    · have hMi := h.2.2.2.2.2.2.1.1
      have q0 : ∀ i, i = 16 ∨ i = 18 → mI MM4 (B + 0) i = mI M (B + 0) i := fun i hi => by rw [(hA8 _ _ (by omega)).1]
      have q5 : ∀ i, i = 11 ∨ i = 52 → mI MM4 (B + 105) i = mI M (B + 105) i := fun i hi => by rw [(hA8 _ _ (by omega)).1]
      refine ⟨by rw [q0 16 (by omega), q5 11 (by omega)]; exact hMi.2.1, ?_, by rw [q0 18 (by omega), q5 52 (by omega)]; exact hMi.2.2.2⟩
      rw [(hA7 _ _ (by omega)).1, mq, h17, (hA6 _ _ (by omega)).1, d18])
  dsimp only at f1 f2
  rw [ans_ac hS1 (by omega) (by omega)] at f1
  refine ⟨r, S1, M2, M3, ?_, f2, hI⟩
  rw [cr, e1, obs]
  dsimp only
  rw [hI1.ck, obs, eadd, obs, hS1.ck0, obs, f1, obs]
end
