/-! law: the new text of the class -/
theorem sK_new {S : zS} {c ln b : Nat} : sK (zNew S c ln) b = if b = sZ S then c else sK S b := rfl
theorem sN_new {S : zS} {c ln b : Nat} : sN (zNew S c ln) b = if b = sZ S then ln else sN S b := rfl
theorem sF_new {S : zS} {c ln b j : Nat} : sF (zNew S c ln) b j = if b = sZ S then none else sF S b j := rfl
theorem sZ_new {S : zS} {c ln : Nat} : sZ (zNew S c ln) = sZ S + 1 := rfl
theorem sK_set {S : zS} {a i b : Nat} {v : Option Nat} : sK (setF S a i v) b = sK S b := rfl
theorem sN_set {S : zS} {a i b : Nat} {v : Option Nat} : sN (setF S a i v) b = sN S b := rfl
theorem sF_set {S : zS} {a i b j : Nat} {v : Option Nat} : sF (setF S a i v) b j = if b = a ∧ j = i then v else sF S b j := rfl
theorem sZ_set {S : zS} {a i : Nat} {v : Option Nat} : sZ (setF S a i v) = sZ S := rfl
/-- more cells behind -/
def shE (S S1 : zS) : Prop := sZ S ≤ sZ S1 ∧ ∀ b, b < sZ S → sK S1 b = sK S b ∧ sN S1 b = sN S b ∧ ∀ j, sF S1 b j = sF S b j
def newX (S : zS) : Nat → Nat → Prop := fun b _ => sZ S ≤ b
section
variable {n : Nat} {E : zE} {S S1 : zS} {M M1 : zH} {B a t : Nat} {N : Nt} {Ls : Nat → Lw} {L : Lw}
theorem shE.rfl' : shE S S := ⟨Nat.le_refl _, fun _ _ => ⟨rfl, rfl, fun _ => rfl⟩⟩
theorem shE.new (h : shE S S1) {c ln : Nat} : shE S (zNew S1 c ln) := by
  obtain ⟨h1, h2⟩ := h
  refine ⟨by rw [sZ_new]; omega, fun b hb => ?_⟩
  rw [sK_new, sN_new, if_neg (by omega), if_neg (by omega)]
  exact ⟨(h2 b hb).1, (h2 b hb).2.1, fun j => by rw [sF_new, if_neg (by omega)]; exact (h2 b hb).2.2 j⟩
theorem shE.set (h : shE S S1) {a i : Nat} {v : Option Nat} (ha : sZ S ≤ a) : shE S (setF S1 a i v) := by
  obtain ⟨h1, h2⟩ := h
  refine ⟨h1, fun b hb => ⟨(h2 b hb).1, (h2 b hb).2.1, fun j => ?_⟩⟩
  rw [sF_set, if_neg (by omega)]
  exact (h2 b hb).2.2 j
theorem ShOK.ex (h : ShOK S B) (hz : B + 136 ≤ sZ S) (e : shE S S1) : ShOK S1 B := fun i hi => by
  obtain ⟨e1, e2, e3⟩ := e.2 (B + i) (by omega)
  obtain ⟨h1, h2, h3⟩ := h i hi
  exact ⟨e1.trans h1, e2.trans h2, fun j hj => (e3 j).trans (h3 j hj)⟩
theorem TxR.ex (h : TxR S M t L) (ht : t + 6 ≤ sZ S) (e : shE S S1) (hA : zAg (newX S) M M1) : TxR S1 M1 t L := by
  obtain ⟨len, st, nc, kd, tm, wm, mk, ⟨⟨a1, a2, a3, a4, a5, a6, a7⟩, b, ⟨c1, c2, c3, c4⟩, d, e0, f, g⟩, h2⟩ := h
  have k : ∀ i, i < 6 → sK S1 (t + i) = sK S (t + i) ∧ sN S1 (t + i) = sN S (t + i) ∧ ∀ j, sF S1 (t + i) j = sF S (t + i) j := fun i hi => e.2 (t + i) (by omega)
  have m : ∀ i j, i < 6 → mI M1 (t + i) j = mI M (t + i) j := fun i j hi => (hA _ _ (by unfold newX; omega)).1
  have k0 := k 0 (by omega)
  rw [Nat.add_zero] at k0
  have m0 := fun j => m 0 j (by omega)
  simp only [Nat.add_zero] at m0
  refine ⟨len, st, nc, kd, tm, wm, mk, ⟨⟨k0.1.trans a1, (k0.2.2 0).trans a2, (k 1 (by omega)).1.trans a3, by rw [(k 1 (by omega)).2.1]; exact a4, by rw [(k 1 (by omega)).2.1]; exact a5, (m0 5).trans a6, fun i hi => by rw [m 1 i (by omega)]; exact a7 i hi⟩, fun f hf => ?_, ⟨(k 2 (by omega)).2.1.trans c1, (k 3 (by omega)).2.1.trans c2, (k 4 (by omega)).2.1.trans c3, (k 5 (by omega)).2.1.trans c4⟩, (m0 6).trans d, e0, fun c hc => ?_, fun c hc p hp => ?_⟩, h2⟩
  · have := k (1 + f) (by omega)
    rw [← Nat.add_assoc] at this
    exact ⟨(k0.2.2 f).trans (b f hf).1, this.1.trans (b f hf).2⟩
  · rw [m 2 c (by omega), m 3 c (by omega), m 4 c (by omega)]; exact f c hc
  · rw [m 5 _ (by omega)]; exact g c hc p hp
theorem CN.ex (h : CN S M B a N Ls) (ha : a + 12 ≤ B + 136) (hz : B + 136 ≤ sZ S) (e : shE S S1) (hA : zAg (newX S) M M1) : CN S1 M1 B a N Ls := by
  refine ⟨h.1.ag hA (fun b j q1 q2 => by unfold newX; omega), h.2.1, fun j hj => ?_⟩
  rw [(hA _ _ (show ¬ newX S (a + 11) j by unfold newX; omega)).2.2]
  have e1 := e.1
  refine ⟨fun t ht => ?_, fun hl => ?_⟩
  · obtain ⟨q1, q2⟩ := (h.2.2 j hj).1 t ht
    exact ⟨(e.2 t (by omega)).1.trans q1, by omega⟩
  · obtain ⟨t, g1, g2, g3⟩ := (h.2.2 j hj).2 hl
    exact ⟨t, g1, g2, g3.ex ((h.2.2 j hj).1 t g2).2 e hA⟩
theorem Inv.ex (h : Inv S M B) (e : shE S S1) (hA : zAg (newX S) M M1) : Inv S1 M1 B := by
  obtain ⟨h1, h2, ⟨N, Ls, hC, hM, hh, hP⟩, hI0, hI1, hT, hMi, hY, hCo⟩ := h
  have e1 := e.1
  have hX : ∀ i j, i < 136 → ¬ newX S (B + i) j := fun i j hi => by unfold newX; omega
  have im : ∀ k, k < 2 → ImR S M B k → ImR S1 M1 B k := fun k hk hI => by
    rcases hI with ⟨q1, q2⟩ | ⟨q1, q2, N, Ls, q3, q4, q5, q6⟩
    · exact Or.inl ⟨by rw [(hA _ _ (hX 38 k (by omega))).1]; exact q1, by rw [(hA _ _ (hX 109 k (by omega))).1]; exact q2⟩
    · have ik : iaI k + 12 ≤ 136 := by unfold iaI; split <;> omega
      exact Or.inr ⟨by rw [(hA _ _ (hX 38 k (by omega))).1]; exact q1, by rw [(hA _ _ (hX 109 k (by omega))).1]; exact q2, N, Ls, q3.ex (by omega) h2 e hA, q4, q5.cg (fun i _ => (hA _ _ (hX 108 _ (by omega))).1), fun j hj hl => (q6 j hj hl).cg (fun i _ _ => (hA _ _ (hX 108 _ (by omega))).1)⟩
  exact ⟨h1.ex h2 e, by omega, ⟨N, Ls, hC.ex (by omega) h2 e hA, hM.ag hA (fun j => hX 107 j (by omega)) (hX 105 20 (by omega)), hh, hP.ag hA (hX 63 _ (by omega)) (fun j => hX 64 j (by omega)) (hX 105 _ (by omega)) (fun j _ => hX 110 j (by omega)) (fun j => hX 111 j (by omega))⟩, im 0 (by omega) hI0, im 1 (by omega) hI1, hT.ag hA (hX 67 _ (by omega)) (fun j => hX 68 j (by omega)) (hX 105 _ (by omega)) (fun j => hX 114 j (by omega)), hMi.ag hA (fun j _ _ => hX 0 j (by omega)) (fun j _ => hX 105 j (by omega)) (fun j => hX 104 j (by omega)) (fun j => hX 106 j (by omega)), hY.ag hA (hX 0 _ (by omega)) (hX 105 _ (by omega)) (fun b j q1 q2 => by unfold newX; omega) (fun j => hX 135 j (by omega)), hCo.ag hA (fun j => hX 13 j (by omega)) (fun b j hb => by unfold newX; omega)⟩
/-- copyOf -/
theorem s_cpo {k : Nat} (ha : a < sZ S) (hk : sK S a = 12) (hN : k ≤ sN S a) (h5 : sN S a ≤ 512) : ∃ M', F_Ja_copyOf n E a (iI (k : Int)) S M = some (sZ S, zNew S 12 k, M') ∧ (∀ j, j < k → mI M' (sZ S) j = mI M a j) ∧ zAg (fun b _ => b = sZ S) M M' := by
  unfold F_Ja_copyOf zlen
  rw [if_pos hk, obs]
  have en : nI (sN S a) = iI (sN S a : Int) := (iI_nat _).symm
  by_cases c : k = sN S a
  · refine ⟨_, by rw [en, if_pos (by rw [c]), show zcln S M a 512 = _ from if_pos ⟨hk, h5⟩, obs, ← c], fun j hj => ?_, fun b j q => ?_⟩
    · show (if sZ S = sZ S then mI M a j else mI M (sZ S) j) = _
      rw [if_pos rfl]
    · exact ⟨if_neg q, if_neg q, if_neg q⟩
  · have c1 : ¬ iI (k : Int) = iI (sN S a : Int) := ceqF (by omega) (by omega) (by omega) (by omega) (by omega)
    have c2 : ¬ iI (k : Int) < 0 := by rw [iL0]; exact cltF (by omega) (by omega) (by omega)
    have c3 : (iI (k : Int)).toNatClampNeg = k := by rw [iI_clamp (by omega) (by omega)]; omega
    have e1 : zmkA S M 12 (iI (k : Int)) 512 = some (sZ S, zNew S 12 k, mNew M (sZ S)) := by
      unfold zmkA
      rw [if_pos ⟨c2, by rw [c3]; omega⟩, c3]
    have k2 : sK (zNew S 12 k) a = 12 := by rw [sK_new, if_neg (by omega)]; exact hk
    have e2 : zcpy (zNew S 12 k) (mNew M (sZ S)) a 0 (sZ S) 0 (iI (k : Int)) = some (fun q j => if q = sZ S then va_cpy (mI (mNew M (sZ S)) a) (mI (mNew M (sZ S)) (sZ S)) (0 : Int32).toNatClampNeg (0 : Int32).toNatClampNeg (iI (k : Int)).toNatClampNeg j else mI (mNew M (sZ S)) q j, mJ (mNew M (sZ S)), mR (mNew M (sZ S))) := by
      unfold zcpy
      rw [if_pos ⟨k2, by rw [sK_new, if_pos rfl], by decide, by decide, c2, by rw [c3, sN_new, if_neg (by omega)]; show 0 + k ≤ sN S a; omega, by rw [c3, sN_new, if_pos rfl]; show 0 + k ≤ k; omega⟩]
    refine ⟨_, by rw [en, if_neg c1, e1, obs, if_pos k2, obs, sN_new, if_neg (by omega), en, s_min, obs, if_pos (cltT (by omega) (by omega) (by omega)), e2, obs], fun j hj => ?_, fun b j q => ?_⟩
    · show (if sZ S = sZ S then va_cpy (mI (mNew M (sZ S)) a) (mI (mNew M (sZ S)) (sZ S)) (0 : Int32).toNatClampNeg (0 : Int32).toNatClampNeg (iI (k : Int)).toNatClampNeg j else _) = _
      rw [if_pos rfl, c3]
      unfold va_cpy
      rw [if_pos ⟨Nat.zero_le _, by show j < 0 + k; omega⟩]
      show (if a = sZ S then 0 else mI M a (0 + (j - 0))) = _
      rw [if_neg (by omega), show 0 + (j - 0) = j by omega]
    · refine ⟨?_, if_neg q, if_neg q⟩
      show (if b = sZ S then _ else if b = sZ S then 0 else mI M b j) = _
      rw [if_neg q, if_neg q]
end
