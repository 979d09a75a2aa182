/-! law: the class's copy of its text -/
def cpL (len f : Nat) : Nat := if f = 0 then len else if f = 4 then 48 else 12
/-- i of its five rows are copied -/
def cpP (S : zS) (M : zH) (B len t i : Nat) (S2 : zS) (M2 : zH) : Prop := shE S S2 ∧ sZ S2 = t + 1 + i ∧ sK S2 t = 9 ∧ (∀ f, f < i → sF S2 t f = some (t + 1 + f) ∧ sK S2 (t + 1 + f) = 12 ∧ sN S2 (t + 1 + f) = cpL len f) ∧ zAg (newX S) M M2 ∧ ∀ f, f < i → ∀ k, k < cpL len f → mI M2 (t + 1 + f) k = mI M (B + 71 + f) k
section
variable {n : Nat} {E : zE} {S S2 : zS} {M M2 : zH} {B len t i : Nat}
theorem cp_step (hS : ShOK S B) (hz : B + 136 ≤ sZ S) (ht : sZ S = t) (hl : len ≤ 400) (hi : i < 5) (h : cpP S M B len t i S2 M2) {ad k : Nat} (ha : ad = B + 71 + i) (hk : k = cpL len i) : ∃ S3 M3, F_Ja_copyOf n E ad (iI (k : Int)) S2 M2 = some (t + 1 + i, zNew S2 12 k, M3) ∧ zpR (zNew S2 12 k) t 9 i (t + 1 + i) = some S3 ∧ cpP S M B len t (i + 1) S3 M3 := by
  obtain ⟨h1, h2, h3, h4, h5, h6⟩ := h
  have hS2 := hS.ex hz h1
  have tt : tK (71 + i) = 12 ∧ cpL len i ≤ tN (71 + i) ∧ tN (71 + i) ≤ 512 := by
    have : i = 0 ∨ i = 1 ∨ i = 2 ∨ i = 3 ∨ i = 4 := by omega
    rcases this with rfl | rfl | rfl | rfl | rfl
    · exact ⟨rfl, hl, by decide⟩
    · exact ⟨rfl, by show (12 : Nat) ≤ 12; decide, by decide⟩
    · exact ⟨rfl, by show (12 : Nat) ≤ 12; decide, by decide⟩
    · exact ⟨rfl, by show (12 : Nat) ≤ 12; decide, by decide⟩
    · exact ⟨rfl, by show (48 : Nat) ≤ 48; decide, by decide⟩
  obtain ⟨k1, k2, _⟩ := hS2 (71 + i) (by omega)
  rw [← Nat.add_assoc, ← ha] at k1 k2
  obtain ⟨M3, e, c, hA⟩ := s_cpo (n := n) (E := E) (M := M2) (a := ad) (k := k) (by omega) (k1.trans tt.1) (by rw [k2, hk]; exact tt.2.1) (by rw [k2]; exact tt.2.2)
  rw [h2] at e c hA
  have k9 : sK (zNew S2 12 k) t = 9 := by rw [sK_new, if_neg (by omega)]; exact h3
  refine ⟨setF (zNew S2 12 k) t i (some (t + 1 + i)), M3, e, if_pos k9, h1.new.set (by omega), by rw [sZ_set, sZ_new, h2]; omega, by rw [sK_set]; exact k9, fun f hf => ?_, h5.trans (hA.mono (fun b j q => by unfold newX; omega)), fun f hf j hj => ?_⟩
  · rw [sF_set, sF_new, sK_set, sK_new, sN_set, sN_new]
    by_cases q : f = i
    · rw [if_pos ⟨rfl, q⟩, if_pos (by omega), if_pos (by omega), q, hk]
      exact ⟨rfl, rfl, rfl⟩
    · rw [if_neg (fun z => q z.2), if_neg (by omega), if_neg (by omega), if_neg (by omega)]
      exact h4 f (by omega)
  · by_cases q : f = i
    · subst q
      rw [c j (by rw [hk]; exact hj), ha]
      exact (h5 _ _ (by unfold newX; omega)).1
    · rw [(hA _ _ (by omega)).1]; exact h6 f (by omega) j hj
theorem s_copyT (hS : ShOK S B) (hz : B + 136 ≤ sZ S) (ht : sZ S = t) (hl : len ≤ 400) (h5 : mI M (B + 70) 5 = iI (len : Int)) : ∃ S1 M1, F_Te_copy n E (B + 70) S M = some (t, S1, M1) ∧ cpP S M B len t 5 S1 M1 ∧ mI M1 t 5 = mI M (B + 70) 5 ∧ mI M1 t 6 = mI M (B + 70) 6 := by
  have x0 : shE S (zNew S 9 0) := shE.rfl'.new
  have s0 := hS.ex hz x0
  have t0 : sK (zNew S 9 0) t = 9 := by rw [sK_new, if_pos ht.symm]
  have cel : ∀ {M1 : zH} {i j : Nat}, zAg (newX S) M M1 → i < 136 → mI M1 (B + i) j = mI M (B + i) j := fun {M1 i j} h hi => (h _ _ (by unfold newX; omega)).1
  have hA0 : zAg (newX S) M (setI (setI (mNew M t) t 5 (iI 0)) t 6 (iI 0)) := by
    have q : zAg (newX S) M (mNew M t) := fun b j q => by
      have hb : ¬ b = t := fun z => q (by unfold newX; omega)
      exact ⟨if_neg hb, if_neg hb, if_neg hb⟩
    exact (q.setI (by unfold newX; omega)).setI (by unfold newX; omega)
  have p0 : cpP S M B len t 0 (zNew S 9 0) (setI (setI (mNew M t) t 5 (iI 0)) t 6 (iI 0)) := ⟨x0, by rw [sZ_new, ht], t0, fun f hf => by omega, hA0, fun f hf => by omega⟩
  have e0 : zmkO S M 9 = some (t, zNew S 9 0, mNew M t) := by rw [← ht]; rfl
  have red : F_Te_copy n E (B + 70) S M = (F_Te_init1 n E t (B + 70) (zNew S 9 0) (mNew M t)).bind fun q_2 => some (t, q_2.1, q_2.2) := by
    unfold F_Te_copy
    rw [e0, obs]
  rw [red]
  unfold F_Te_init1
  rw [iL0, pz_pI t0, obs, pz_pI t0, obs, s0.g70_0, obs, s0.i70, obs, cel hA0 (by omega), h5, s_max, obs, if_neg (cltF (by omega) (by omega) (by omega))]
  generalize zNew S 9 0 = S2 at p0
  generalize setI (setI (mNew M t) t 5 (iI 0)) t 6 (iI 0) = M2 at p0
  obtain ⟨S3, M3, e1, r1, p1⟩ := cp_step (n := n) (E := E) hS hz ht hl (by omega) p0 (ad := B + 71) (k := len) rfl rfl
  rw [e1, obs]
  dsimp only
  rw [r1, obs, (hS.ex hz p1.1).g70_1, obs]
  obtain ⟨S4, M4, e2, r2, p2⟩ := cp_step (n := n) (E := E) hS hz ht hl (by omega) p1 (ad := B + 72) (k := 12) rfl rfl
  rw [show (12 : Int32) = iI ((12 : Nat) : Int) by decide, e2, obs]
  dsimp only
  rw [r2, obs, (hS.ex hz p2.1).g70_2, obs]
  obtain ⟨S5, M5, e3, r3, p3⟩ := cp_step (n := n) (E := E) hS hz ht hl (by omega) p2 (ad := B + 73) (k := 12) rfl rfl
  rw [e3, obs]
  dsimp only
  rw [r3, obs, (hS.ex hz p3.1).g70_3, obs]
  obtain ⟨S6, M6, e4, r4, p4⟩ := cp_step (n := n) (E := E) hS hz ht hl (by omega) p3 (ad := B + 74) (k := 12) rfl rfl
  rw [e4, obs]
  dsimp only
  rw [r4, obs, (hS.ex hz p4.1).g70_4, obs]
  obtain ⟨S7, M7, e5, r5, p5⟩ := cp_step (n := n) (E := E) hS hz ht hl (by omega) p4 (ad := B + 75) (k := 48) rfl rfl
  rw [show (48 : Int32) = iI ((48 : Nat) : Int) by decide, e5, obs]
  dsimp only
  have s7 := hS.ex hz p5.1
  have hA6 : zAg (fun b _ => b = t) M7 (setI (setI M7 t 5 (mI M (B + 70) 5)) t 6 (mI M (B + 70) 6)) := (zAg.rfl'.setI (by rfl)).setI (by rfl)
  refine ⟨S7, setI (setI M7 t 5 (mI M (B + 70) 5)) t 6 (mI M (B + 70) 6), ?_, ⟨p5.1, p5.2.1, p5.2.2.1, p5.2.2.2.1, p5.2.2.2.2.1.trans (hA6.mono (fun b j q => by unfold newX; omega)), fun f hf k hk => ?_⟩, by rw [mI_i (by decide), mI_s]; exact h5, mI_s⟩
  · rw [r5, obs, s7.i70, obs, cel p5.2.2.2.2.1 (by omega), pz_pI p5.2.2.1, obs, s7.i70, obs, mI_a (by omega), cel p5.2.2.2.2.1 (by omega), pz_pI p5.2.2.1, obs, obs]
  · rw [(hA6 _ _ (by omega)).1]; exact p5.2.2.2.2.2 f hf k hk
end
