/-! placed: the model's search -/
def nwB (ct : Nat → Nat → Int) (t : Nat → Nat) (k : Nat) : Nat → Bool
  | 0 => decide (ct k (t k) ≠ -1)
  | i + 1 => nwB ct t k i && decide (t i ≠ t k)
theorem nw_t {ct : Nat → Nat → Int} {t : Nat → Nat} {k : Nat} : ∀ i : Nat, nwB ct t k i = true ↔ ct k (t k) ≠ -1 ∧ ∀ j, j < i → t j ≠ t k := by
  intro i
  induction i with
  | zero => exact ⟨fun h => ⟨of_decide_eq_true h, fun j hj => by omega⟩, fun h => decide_eq_true h.1⟩
  | succ i ih =>
    show (nwB ct t k i && decide (t i ≠ t k)) = true ↔ _
    rw [Bool.and_eq_true, ih]
    constructor
    · intro ⟨⟨h1, h2⟩, h3⟩
      refine ⟨h1, fun j hj => ?_⟩
      by_cases e : j = i
      · rw [e]; exact of_decide_eq_true h3
      · exact h2 j (by omega)
    · intro ⟨h1, h2⟩
      exact ⟨⟨h1, fun j hj => h2 j (by omega)⟩, decide_eq_true (h2 i (by omega))⟩
def fpO (ct : Nat → Nat → Int) (w B : Nat) (M0 M : zH) (k : Nat) (t : Nat → Nat) (R : Nat) : Prop := zAg (fun b j => b = B + 128 ∨ b = B + 129) M0 M ∧ (∀ i, i < k → mI M (B + 128) i = iI (t i : Int)) ∧ ((bsV ct w R).1 ≠ -1 → ∀ i, i < w → mI M (B + 129) i = iI ((dg w (bsV ct w R).2.toNat i : Nat) : Int))
def fpT : Nat → Nat
  | 0 => 1
  | d + 1 => 8 * fpT d + 9
theorem dg_k {w P d k g x : Nat} (hd : d + 1 + k = w) (hP : P % 8 ^ (d + 1) = 0) (hg : g < 8) (hx : x < 8 ^ d) : dg w (P + g * 8 ^ d + x) k = g := by
  unfold dg
  have e : w - 1 - k = d := by omega
  have hp : 0 < 8 ^ d := Nat.pow_pos (by decide)
  obtain ⟨Q, hQ⟩ : ∃ Q, P = 8 ^ (d + 1) * Q := ⟨P / 8 ^ (d + 1), by have := Nat.div_add_mod P (8 ^ (d + 1)); omega⟩
  rw [e, hQ, Nat.pow_succ, show 8 ^ d * 8 * Q + g * 8 ^ d + x = x + 8 ^ d * (8 * Q + g) by rw [Nat.mul_add, Nat.mul_assoc, Nat.mul_comm g]; omega, Nat.add_mul_div_left _ _ hp, Nat.div_eq_of_lt hx]
  omega
section
variable {n : Nat} {E : zE} {S : zS} {M M' M0 : zH} {B : Nat} {N N' : Nt} {Ls : Nat → Lw} {ct : Nat → Nat → Int} {w : Nat} {t : Nat → Nat}
theorem s_isNew (hS : ShOK S B) (hw : w ≤ 3) {k : Nat} (hk : k < w) (hn : 100 ≤ n) (hct : ∀ b f, b < w → f < 8 → -1 ≤ ct b f ∧ ct b f ≤ 891) (h127 : ∀ b f : Nat, b < w → f < 8 → mI M (B + 127) (8 * b + f) = iI (ct b f)) (ht : ∀ i, i ≤ k → t i < 8 ∧ mI M (B + 128) i = iI (t i : Int)) : F_Mo_isNew n E S (B + 105) (iI (k : Int)) M = some (nwB ct t k k, M) := by
  have hk8 := (ht k (Nat.le_refl _)).1
  have hcb := hct k (t k) hk hk8
  have key : zfix (fun r28 s => F_Mo_isNew_L28 n E S r28 s.1 s.2.1 s.2.2.1 s.2.2.2.1 s.2.2.2.2) n (B + 105, iI (k : Int), bI (nwB ct t k 0), iI 0, M) = some (nwB ct t k k, M) := by
    obtain ⟨w1, e1⟩ := zfix_for (F := fun r28 s => F_Mo_isNew_L28 n E S r28 s.1 s.2.1 s.2.2.1 s.2.2.2.1 s.2.2.2.2) (fun i => (B + 105, iI (k : Int), bI (nwB ct t k i), iI (i : Int), M)) k (fun i hi rec => by
      show F_Mo_isNew_L28 n E S rec (B + 105) (iI (k : Int)) (bI (nwB ct t k i)) (iI (i : Int)) M = _
      have hi8 := (ht i (by omega)).1
      unfold F_Mo_isNew_L28 F_Mo_isNew_b56 F_Mo_isNew_b57
      rw [if_neg (cleF (by omega) (by omega) (by omega))]
      by_cases c : nwB ct t k i = true
      · rw [if_neg (show ¬ bI (nwB ct t k i) = 0 by rw [c]; decide), hS.g105_43, obs, hS.r128 (by omega) (by omega), obs, hS.r128 (by omega) (by omega), obs, Int.toNat_natCast, Int.toNat_natCast, (ht i (by omega)).2, (ht k (Nat.le_refl _)).2]
        by_cases q : t i = t k
        · have e : nwB ct t k (i + 1) = false := by
            show (nwB ct t k i && decide (t i ≠ t k)) = false
            rw [decide_eq_false (fun z => z q), Bool.and_false]
          rw [if_pos (ceqT (by omega)), iL1, iI_add, e]; rfl
        · have e : nwB ct t k (i + 1) = true := by
            show (nwB ct t k i && decide (t i ≠ t k)) = true
            rw [decide_eq_true q, c]; rfl
          rw [if_neg (ceqF (by omega) (by omega) (by omega) (by omega) (by omega)), iL1, iI_add, e]; rfl
      · have e0 : nwB ct t k i = false := Bool.eq_false_iff.mpr c
        have e : nwB ct t k (i + 1) = false := by
          show (nwB ct t k i && decide (t i ≠ t k)) = false
          rw [e0]; rfl
        rw [e0, if_pos (show bI false = 0 from rfl), iL1, iI_add, e]; rfl) (k := n) (by omega)
    refine e1.trans ?_
    show F_Mo_isNew_L28 n E S _ (B + 105) (iI (k : Int)) (bI (nwB ct t k k)) (iI (k : Int)) M = _
    unfold F_Mo_isNew_L28
    rw [if_pos (cleT (by omega) (by omega) (by omega))]
    cases nwB ct t k k <;> rfl
  unfold F_Mo_isNew F_Mo_isNew_b25 F_Mo_isNew_b28
  rw [hS.g105_42, obs, hS.g105_43, obs, hS.r128 (by omega) (by omega), obs, Int.toNat_natCast, (ht k (Nat.le_refl _)).2, iL8, iI_mul, iI_add, hS.r127 (by omega) (by omega), obs, show (8 * (k : Int) + (t k : Int)).toNat = 8 * k + t k by omega, h127 k _ hk hk8, iL1, iI_neg]
  by_cases c : ct k (t k) = -1
  · rw [if_pos (ceqT c)]
    have e : nwB ct t k 0 = false := decide_eq_false (fun z => z c)
    rw [e] at key
    exact key
  · rw [if_neg (ceqF c (by omega) (by omega) (by omega) (by omega))]
    have e : nwB ct t k 0 = true := decide_eq_true c
    rw [e] at key
    exact key
theorem fp_skip (hw : w ≤ 3) (hn : 100 ≤ n) {x2 x3 x4 : Int32} (rec : Nat × Int32 × Int32 × Int32 × zH → Option (Int32 × zH)) : F_Mo_findPlaced_b110 n E S rec (B + 105) (iI (w : Int)) x2 x3 x4 0 M = rec (B + 105, iI (w : Int), x2, x3 + (-1), M) := by
  obtain ⟨n', hn'⟩ : ∃ n', n = n' + 1 := ⟨n - 1, by omega⟩
  unfold F_Mo_findPlaced_b110 F_Mo_findPlaced_b115
  generalize hF : (fun r115 (s : Nat × Int32 × Int32 × Int32 × Int32 × Int32 × Int32 × zH) => F_Mo_findPlaced_L115 n E S rec r115 s.1 s.2.1 s.2.2.1 s.2.2.2.1 s.2.2.2.2.1 s.2.2.2.2.2.1 s.2.2.2.2.2.2.1 s.2.2.2.2.2.2.2) = F
  have e : zfix F n = F (zfix F n') := by rw [hn']; rfl
  rw [e, ← hF]
  show F_Mo_findPlaced_L115 n E S rec _ (B + 105) (iI (w : Int)) x2 x3 x4 0 0 M = _
  unfold F_Mo_findPlaced_L115 F_Mo_findPlaced_b146 F_Mo_findPlaced_b157
  by_cases c : w = 0
  · rw [iL0, if_pos (cleT (by omega) (by omega) (by omega)), if_pos rfl]
  · rw [iL0, if_neg (cleF (by omega) (by omega) (by omega)), if_pos rfl, if_pos rfl]
theorem fp_leaf (hS : ShOK S B) (hw : w ≤ 3) (hn : 100 ≤ n) (hct : ∀ b f, b < w → f < 8 → -1 ≤ ct b f ∧ ct b f ≤ 891) (h127 : ∀ b f : Nat, b < w → f < 8 → mI M0 (B + 127) (8 * b + f) = iI (ct b f)) {P : Nat} (hP : P < 512) (hd : ∀ i, i < w → dg w P i = t i) (hv : rvG ct w P w ≠ -1) (h : fpO ct w B M0 M w t P) (hk : mI M (B + 128) w = iI (-1)) : ∃ M', fpO ct w B M0 M' w t (P + 1) ∧ ∀ rec, F_Mo_findPlaced_L18 n E S rec (B + 105) (iI (w : Int)) (iI (bsV ct w P).1) (iI (w : Int)) M = rec (B + 105, iI (w : Int), iI (bsV ct w (P + 1)).1, iI ((w : Int) + -1), M') := by
  obtain ⟨hA, ht, hb⟩ := h
  have hbb := bs_b hct P
  have hrb := rv_b hct (row := P) w (Nat.le_refl _)
  have ev := rv_sum (ct := ct) (w := w) (row := P) w hv
  have hA1 : zAg (fun b j => b = B + 128 ∨ b = B + 129) M0 (setI M (B + 128) w (iI (-1 + 1))) := hA.setI (Or.inl rfl)
  have ht1 : ∀ i, i < w → mI (setI M (B + 128) w (iI (-1 + 1))) (B + 128) i = iI (t i : Int) := fun i hi => by rw [mI_i (by omega)]; exact ht i hi
  have hb1 : (bsV ct w P).1 ≠ -1 → ∀ i, i < w → mI (setI M (B + 128) w (iI (-1 + 1))) (B + 129) i = iI ((dg w (bsV ct w P).2.toNat i : Nat) : Int) := fun q i hi => by rw [mI_a (by omega)]; exact hb q i hi
  generalize hM1 : setI M (B + 128) w (iI (-1 + 1)) = M1 at hA1 ht1 hb1
  have sum : ∀ rec, F_Mo_findPlaced_b54 n E S rec (B + 105, iI (w : Int), iI (bsV ct w P).1, iI (w : Int), iI 0, iI 0, M1) = F_Mo_findPlaced_b94 n E S rec (B + 105) (iI (w : Int)) (iI (bsV ct w P).1) (iI (w : Int)) (iI (rvG ct w P w)) M1 := fun rec => by
    unfold F_Mo_findPlaced_b54
    obtain ⟨w1, e1⟩ := zfix_for (F := fun r54 s => F_Mo_findPlaced_L54 n E S rec r54 s.1 s.2.1 s.2.2.1 s.2.2.2.1 s.2.2.2.2.1 s.2.2.2.2.2.1 s.2.2.2.2.2.2) (fun i => (B + 105, iI (w : Int), iI (bsV ct w P).1, iI (w : Int), iI (zsum (fun b => ct b (dg w P b)) i), iI (i : Int), M1)) w (fun i hi r54 => by
      show F_Mo_findPlaced_L54 n E S rec r54 (B + 105) (iI (w : Int)) (iI (bsV ct w P).1) (iI (w : Int)) (iI (zsum (fun b => ct b (dg w P b)) i)) (iI (i : Int)) M1 = _
      have hi8 := dg_b (w := w) (row := P) (b := i)
      rw [hd i hi] at hi8
      unfold F_Mo_findPlaced_L54
      rw [if_neg (cleF (by omega) (by omega) (by omega)), if_pos rfl, hS.g105_42, obs, hS.g105_43, obs, hS.r128 (by omega) (by omega), obs, Int.toNat_natCast, ht1 i hi, iL8, iI_mul, iI_add, hS.r127 (by omega) (by omega), obs, show (8 * (i : Int) + (t i : Int)).toNat = 8 * i + t i by omega, (hA1 _ _ (by omega)).1, h127 i _ hi hi8, iI_add, iL1, iI_add, zsum_s, hd i hi]
      rfl) (k := n) (by omega)
    refine e1.trans ?_
    show F_Mo_findPlaced_L54 n E S rec _ (B + 105) (iI (w : Int)) (iI (bsV ct w P).1) (iI (w : Int)) (iI (zsum (fun b => ct b (dg w P b)) w)) (iI (w : Int)) M1 = _
    unfold F_Mo_findPlaced_L54
    rw [if_pos (cleT (by omega) (by omega) (by omega)), ← ev]
  by_cases c : (bsV ct w P).1 < rvG ct w P w
  · obtain ⟨s2, ⟨M2, hs2, h2, hA2⟩, e2⟩ := zfix_inv2 (F := fun r18 r115 s => F_Mo_findPlaced_L115 n E S r18 r115 s.1 s.2.1 s.2.2.1 s.2.2.2.1 s.2.2.2.2.1 s.2.2.2.2.2.1 s.2.2.2.2.2.2.1 s.2.2.2.2.2.2.2) (fun i s => ∃ M2, s = (B + 105, iI (w : Int), iI (bsV ct w P).1, iI (w : Int), iI (rvG ct w P w), iI 1, iI (i : Int), M2) ∧ (∀ j, j < i → mI M2 (B + 129) j = iI (t j : Int)) ∧ zAg (fun b j => b = B + 129) M1 M2) w (fun i hi s hI' => by
      obtain ⟨M2, rfl, h2, hA2⟩ := hI'
      refine ⟨(B + 105, iI (w : Int), iI (bsV ct w P).1, iI (w : Int), iI (rvG ct w P w), iI 1, iI ((i + 1 : Nat) : Int), setI M2 (B + 129) i (iI (t i : Int))), ⟨_, rfl, fun j hj => ?_, hA2.setI rfl⟩, fun r18 rec => ?_⟩
      · rw [mI_ite]
        by_cases q : j = i
        · rw [if_pos ⟨rfl, q⟩, q]
        · rw [if_neg (fun z => q z.2)]; exact h2 j (by omega)
      · show F_Mo_findPlaced_L115 n E S r18 rec (B + 105) (iI (w : Int)) (iI (bsV ct w P).1) (iI (w : Int)) (iI (rvG ct w P w)) (iI 1) (iI (i : Int)) M2 = _
        unfold F_Mo_findPlaced_L115
        rw [if_neg (cleF (by omega) (by omega) (by omega)), if_neg (show ¬ iI 1 = 0 by decide), hS.g105_44, obs, hS.g105_43, obs, hS.r128 (by omega) (by omega), obs, Int.toNat_natCast, (hA2 _ _ (by omega)).1, ht1 i hi, hS.w129 (by omega) (by omega), obs, Int.toNat_natCast, iL1, iI_add]
        rfl) n 0 (B + 105, iI (w : Int), iI (bsV ct w P).1, iI (w : Int), iI (rvG ct w P w), iI 1, 0, M1) (by omega) (by omega) ⟨M1, rfl, fun j hj => by omega, zAg.rfl'⟩
    refine ⟨M2, ⟨hA1.trans (hA2.mono (fun b j q => Or.inr q)), fun i hi => by rw [(hA2 _ _ (by omega)).1]; exact ht1 i hi, fun _ i hi => ?_⟩, fun rec => ?_⟩
    · rw [bs_p c, h2 i hi]
      show _ = iI ((dg w ((P : Int)).toNat i : Nat) : Int)
      rw [Int.toNat_natCast, hd i hi]
    · unfold F_Mo_findPlaced_L18 F_Mo_findPlaced_b48
      rw [iL0, if_neg (cltF (by omega) (by omega) (by omega)), hS.g105_43, obs, hS.r128 (by omega) (by omega), obs, Int.toNat_natCast, hk, iL1, iI_add, hS.w128 (by omega) (by omega), obs, Int.toNat_natCast, hM1, if_pos rfl, sum]
      unfold F_Mo_findPlaced_b94 F_Mo_findPlaced_b110 F_Mo_findPlaced_b115
      rw [if_pos rfl, if_neg (cleF (by omega) (by omega) (by omega))]
      obtain ⟨w2, e5⟩ := e2 rec
      refine e5.trans ?_
      rw [hs2]
      show F_Mo_findPlaced_L115 n E S rec _ (B + 105) (iI (w : Int)) (iI (bsV ct w P).1) (iI (w : Int)) (iI (rvG ct w P w)) (iI 1) (iI (w : Int)) M2 = _
      unfold F_Mo_findPlaced_L115 F_Mo_findPlaced_b146 F_Mo_findPlaced_b157
      rw [if_pos (cleT (by omega) (by omega) (by omega)), if_neg (show ¬ iI 1 = 0 by decide), bs_p c, iL1, iI_neg, iI_add]
  · refine ⟨M1, ⟨hA1, ht1, by rw [bs_n c]; exact hb1⟩, fun rec => ?_⟩
    unfold F_Mo_findPlaced_L18 F_Mo_findPlaced_b48
    rw [iL0, if_neg (cltF (by omega) (by omega) (by omega)), hS.g105_43, obs, hS.r128 (by omega) (by omega), obs, Int.toNat_natCast, hk, iL1, iI_add, hS.w128 (by omega) (by omega), obs, Int.toNat_natCast, hM1, if_pos rfl, sum]
    unfold F_Mo_findPlaced_b94 F_Mo_findPlaced_b109
    rw [if_pos rfl, if_pos (cleT (by omega) (by omega) (by omega)), fp_skip hw hn, bs_n c, iL1, iI_neg, iI_add]
theorem fp_lv (hS : ShOK S B) (hw : w ≤ 3) (hn : 100 ≤ n) (hct : ∀ b f, b < w → f < 8 → -1 ≤ ct b f ∧ ct b f ≤ 891) (h127 : ∀ b f : Nat, b < w → f < 8 → mI M0 (B + 127) (8 * b + f) = iI (ct b f)) {F : (Nat × Int32 × Int32 × Int32 × zH → Option (Int32 × zH)) → Nat × Int32 × Int32 × Int32 × zH → Option (Int32 × zH)} (hF : F = fun r18 s => F_Mo_findPlaced_L18 n E S r18 s.1 s.2.1 s.2.2.1 s.2.2.2.1 s.2.2.2.2) : ∀ (d k : Nat) (t : Nat → Nat) (P : Nat) (M : zH) (fuel : Nat), d + k = w → (∀ x, x < 8 ^ d → ∀ i, i < k → dg w (P + x) i = t i) → (∀ x, x < 8 ^ d → rvG ct w (P + x) k ≠ -1) → P % 8 ^ d = 0 → P + 8 ^ d ≤ 512 → fpO ct w B M0 M k t P → mI M (B + 128) k = iI (-1) → ∃ M' fuel', fuel ≤ fuel' ∧ fpO ct w B M0 M' k t (P + 8 ^ d) ∧ zfix F (fpT d + fuel) (B + 105, iI (w : Int), iI (bsV ct w P).1, iI (k : Int), M) = zfix F fuel' (B + 105, iI (w : Int), iI (bsV ct w (P + 8 ^ d)).1, iI ((k : Int) + -1), M') := by
  intro d
  induction d with
  | zero =>
    intro k t P M fuel hk hd hv hP hP2 h hm
    have e : k = w := by omega
    subst e
    rw [Nat.pow_zero] at hd hv hP2
    obtain ⟨M', h', e'⟩ := fp_leaf (n := n) (E := E) hS hw hn hct h127 (by omega) (hd 0 (by omega)) (hv 0 (by omega)) h hm
    refine ⟨M', fuel, Nat.le_refl _, h', ?_⟩
    rw [show fpT 0 + fuel = fuel + 1 from Nat.add_comm _ _]
    show F (zfix F fuel) _ = _
    rw [show F (zfix F fuel) (B + 105, iI (k : Int), iI (bsV ct k P).1, iI (k : Int), M) = F_Mo_findPlaced_L18 n E S (zfix F fuel) (B + 105) (iI (k : Int)) (iI (bsV ct k P).1) (iI (k : Int)) M by rw [hF]]
    exact e' _
  | succ d ihd =>
    intro k t P M fuel hk hd hv hP hP2 h hm
    have hp : 0 < 8 ^ d := Nat.pow_pos (by decide)
    have hps : 8 ^ (d + 1) = 8 * 8 ^ d := by rw [Nat.pow_succ, Nat.mul_comm]
    have inner : ∀ (r g : Nat) (M : zH) (fuel : Nat), r + g = 8 → fpO ct w B M0 M k t (P + g * 8 ^ d) → mI M (B + 128) k = iI ((g : Int) - 1) → ∃ M' fuel', fuel ≤ fuel' ∧ fpO ct w B M0 M' k t (P + 8 ^ (d + 1)) ∧ zfix F (r * (fpT d + 1) + 1 + fuel) (B + 105, iI (w : Int), iI (bsV ct w (P + g * 8 ^ d)).1, iI (k : Int), M) = zfix F fuel' (B + 105, iI (w : Int), iI (bsV ct w (P + 8 ^ (d + 1))).1, iI ((k : Int) + -1), M') := by
      intro r
      induction r with
      | zero =>
        intro g M fuel hg h hm
        have e8 : g = 8 := by omega
        subst e8
        rw [← hps] at h ⊢
        obtain ⟨hA, ht, hb⟩ := h
        refine ⟨setI M (B + 128) k (iI (((8 : Nat) : Int) - 1 + 1)), fuel, Nat.le_refl _, ⟨hA.setI (Or.inl rfl), fun i hi => by rw [mI_i (by omega)]; exact ht i hi, fun q i hi => by rw [mI_a (by omega)]; exact hb q i hi⟩, ?_⟩
        have hbb := bs_b hct (P + 8 ^ (d + 1))
        rw [show 0 * (fpT d + 1) + 1 + fuel = fuel + 1 by omega]
        show F (zfix F fuel) _ = _
        generalize zfix F fuel = rec
        rw [hF]
        show F_Mo_findPlaced_L18 n E S rec (B + 105) (iI (w : Int)) (iI (bsV ct w (P + 8 ^ (d + 1))).1) (iI (k : Int)) M = _
        obtain ⟨n', hn'⟩ : ∃ n', n = n' + 1 := ⟨n - 1, by omega⟩
        have e54 : ∀ M2 : zH, F_Mo_findPlaced_b54 n E S rec (B + 105, iI (w : Int), iI (bsV ct w (P + 8 ^ (d + 1))).1, iI (k : Int), iI 0, iI 0, M2) = rec (B + 105, iI (w : Int), iI (bsV ct w (P + 8 ^ (d + 1))).1, iI (k : Int) + (-1), M2) := fun M2 => by
          unfold F_Mo_findPlaced_b54
          generalize hG : (fun r54 (s : Nat × Int32 × Int32 × Int32 × Int32 × Int32 × zH) => F_Mo_findPlaced_L54 n E S rec r54 s.1 s.2.1 s.2.2.1 s.2.2.2.1 s.2.2.2.2.1 s.2.2.2.2.2.1 s.2.2.2.2.2.2) = G
          have e : zfix G n = G (zfix G n') := by rw [hn']; rfl
          rw [e, ← hG]
          show F_Mo_findPlaced_L54 n E S rec _ (B + 105) (iI (w : Int)) (iI (bsV ct w (P + 8 ^ (d + 1))).1) (iI (k : Int)) (iI 0) (iI 0) M2 = _
          unfold F_Mo_findPlaced_L54 F_Mo_findPlaced_b94 F_Mo_findPlaced_b109
          have nk : ¬ iI (k : Int) = iI (w : Int) := ceqF (show ¬ (k : Int) = w by omega) (by omega) (by omega) (by omega) (by omega)
          rw [if_neg (cleF (by omega) (by omega) (by omega)), if_neg nk, if_neg nk, fp_skip hw hn]
        unfold F_Mo_findPlaced_L18 F_Mo_findPlaced_b48
        rw [iL0, if_neg (cltF (by omega) (by omega) (by omega)), hS.g105_43, obs, hS.r128 (by omega) (by omega), obs, Int.toNat_natCast, hm, iL1, iI_add, hS.w128 (by omega) (by omega), obs, Int.toNat_natCast, if_neg (ceqF (show ¬ (k : Int) = w by omega) (by omega) (by omega) (by omega) (by omega)), hS.r128 (by omega) (by omega), obs, Int.toNat_natCast, mI_s, iL8, if_neg (cltF (by omega) (by omega) (by omega)), e54, iL1, iI_neg, iI_add]
      | succ r ihr =>
        intro g M fuel hg h hm
        obtain ⟨hA, ht, hb⟩ := h
        have hk3 : k < w := by omega
        have hx : ∀ x, x < 8 ^ d → g * 8 ^ d + x < 8 ^ (d + 1) := fun x hx => by
          have : g * 8 ^ d ≤ 7 * 8 ^ d := Nat.mul_le_mul_right _ (by omega)
          omega
        have hgs : (g + 1) * 8 ^ d = g * 8 ^ d + 8 ^ d := Nat.succ_mul _ _
        have dk : ∀ x, x < 8 ^ d → dg w (P + g * 8 ^ d + x) k = g := fun x hx => dg_k (by omega) hP (by omega) hx
        have dp : ∀ x, x < 8 ^ d → ∀ i, i < k → dg w (P + g * 8 ^ d + x) i = t i := fun x hx' i hi => by
          rw [Nat.add_assoc]; exact hd _ (hx x hx') i hi
        have rp : ∀ x, x < 8 ^ d → rvG ct w (P + g * 8 ^ d + x) k ≠ -1 := fun x hx' => by
          rw [Nat.add_assoc]; exact hv _ (hx x hx')
        have ht8 : ∀ i, i < k → t i < 8 := fun i hi => by rw [← dp 0 hp i hi]; exact dg_b
        have hbb := bs_b hct (P + g * 8 ^ d)
        have eg : iI ((g : Int) - 1 + 1) = iI (g : Int) := by congr 1; omega
        have hA1 : zAg (fun b j => b = B + 128 ∨ b = B + 129) M0 (setI M (B + 128) k (iI (g : Int))) := hA.setI (Or.inl rfl)
        have ht1 : ∀ i, i ≤ k → mI (setI M (B + 128) k (iI (g : Int))) (B + 128) i = iI ((if i = k then g else t i : Nat) : Int) := fun i hi => by
          by_cases q : i = k
          · rw [if_pos q, q, mI_s]
          · rw [if_neg q, mI_i q]; exact ht i (by omega)
        have hb1 : (bsV ct w (P + g * 8 ^ d)).1 ≠ -1 → ∀ i, i < w → mI (setI M (B + 128) k (iI (g : Int))) (B + 129) i = iI ((dg w (bsV ct w (P + g * 8 ^ d)).2.toNat i : Nat) : Int) := fun q i hi => by rw [mI_a (by omega)]; exact hb q i hi
        have hnew := s_isNew (n := n) (E := E) (M := setI M (B + 128) k (iI (g : Int))) (ct := ct) (t := fun i => if i = k then g else t i) hS hw hk3 hn hct (fun b f hb hf => by rw [(hA1 _ _ (by omega)).1]; exact h127 b f hb hf) (fun i hi => ⟨by
          show (if i = k then g else t i) < 8
          by_cases q : i = k
          · rw [if_pos q]; omega
          · rw [if_neg q]; exact ht8 i (by omega), ht1 i hi⟩)
        have hnt := nw_t (ct := ct) (t := fun i => if i = k then g else t i) (k := k) k
        rw [if_pos (rfl : k = k)] at hnt
        rw [show (r + 1) * (fpT d + 1) + 1 + fuel = (fpT d + (r * (fpT d + 1) + 1 + fuel)) + 1 by rw [Nat.succ_mul]; omega]
        have step : ∀ rec : Nat × Int32 × Int32 × Int32 × zH → Option (Int32 × zH), F rec (B + 105, iI (w : Int), iI (bsV ct w (P + g * 8 ^ d)).1, iI (k : Int), M) = if nwB ct (fun i => if i = k then g else t i) k k = true then rec (B + 105, iI (w : Int), iI (bsV ct w (P + g * 8 ^ d)).1, iI ((k : Int) + 1), setI (setI M (B + 128) k (iI (g : Int))) (B + 128) (k + 1) (iI (-1))) else rec (B + 105, iI (w : Int), iI (bsV ct w (P + g * 8 ^ d)).1, iI (k : Int), setI M (B + 128) k (iI (g : Int))) := fun rec => by
          rw [hF]
          show F_Mo_findPlaced_L18 n E S rec (B + 105) (iI (w : Int)) (iI (bsV ct w (P + g * 8 ^ d)).1) (iI (k : Int)) M = _
          unfold F_Mo_findPlaced_L18
          rw [iL0, if_neg (cltF (by omega) (by omega) (by omega)), hS.g105_43, obs, hS.r128 (by omega) (by omega), obs, Int.toNat_natCast, hm, iL1, iI_add, hS.w128 (by omega) (by omega), obs, Int.toNat_natCast, eg, if_neg (ceqF (show ¬ (k : Int) = w by omega) (by omega) (by omega) (by omega) (by omega)), hS.r128 (by omega) (by omega), obs, Int.toNat_natCast, mI_s, iL8, if_pos (cltT (by omega) (by omega) (by omega)), hnew, obs, iI_add, hS.w128 (by omega) (by omega), obs, iI_neg, show ((k : Int) + 1).toNat = k + 1 by omega]
        show ∃ M' fuel', _ ∧ _ ∧ F (zfix F (fpT d + (r * (fpT d + 1) + 1 + fuel))) _ = _
        rw [step]
        by_cases c : nwB ct (fun i => if i = k then g else t i) k k = true
        · rw [if_pos c]
          obtain ⟨c1, c2⟩ := hnt.mp c
          obtain ⟨M2, f2, hf2, hO2, e2⟩ := ihd (k + 1) (fun i => if i = k then g else t i) (P + g * 8 ^ d) (setI (setI M (B + 128) k (iI (g : Int))) (B + 128) (k + 1) (iI (-1))) (r * (fpT d + 1) + 1 + fuel) (by omega) (fun x hx' i hi => by
            show _ = if i = k then g else t i
            by_cases q : i = k
            · rw [if_pos q, q]; exact dk x hx'
            · rw [if_neg q]; exact dp x hx' i (by omega)) (fun x hx' => by
            have rk := rp x hx'
            have rb := rv_b hct (row := P + g * 8 ^ d + x) k (by omega)
            have cb := hct k g hk3 (by omega)
            rw [rv_s, dk x hx', if_neg (fun q => by
              rcases q with q | q | q
              · exact rk q
              · exact c1 q
              · obtain ⟨j, hj, ej⟩ := (tk_t k).mp q
                rw [dp x hx' j hj] at ej
                have := c2 j hj
                rw [if_neg (by omega)] at this
                exact this ej)]
            omega) (by
            obtain ⟨Q, hQ⟩ : ∃ Q, P = 8 ^ (d + 1) * Q := ⟨P / 8 ^ (d + 1), by have := Nat.div_add_mod P (8 ^ (d + 1)); omega⟩
            rw [hQ, hps, show 8 * 8 ^ d * Q + g * 8 ^ d = 8 ^ d * (8 * Q + g) by rw [Nat.mul_add, Nat.mul_comm g, ← Nat.mul_assoc, Nat.mul_comm 8]]
            exact Nat.mul_mod_right _ _) (by have := hx (8 ^ d - 1) (by omega); omega) ⟨hA1.setI (Or.inl rfl), fun i hi => by rw [mI_i (by omega)]; exact ht1 i (by omega), fun q i hi => by rw [mI_a (by omega)]; exact hb1 q i hi⟩ (mI_s)
          obtain ⟨f3, hf3⟩ : ∃ f3, f2 = r * (fpT d + 1) + 1 + f3 := ⟨f2 - (r * (fpT d + 1) + 1), by omega⟩
          obtain ⟨hA2, ht2, hb2⟩ := hO2
          obtain ⟨M3, f4, hf4, hO3, e3⟩ := ihr (g + 1) M2 f3 (by omega) ⟨hA2, fun i hi => by
            have := ht2 i (by omega)
            dsimp only at this
            rw [if_neg (by omega)] at this
            exact this, by rw [hgs, ← Nat.add_assoc]; exact hb2⟩ (by
            have := ht2 k (by omega)
            dsimp only at this
            rw [if_pos rfl] at this
            rw [this]; congr 1; omega)
          refine ⟨M3, f4, by omega, hO3, ?_⟩
          rw [← e3, hgs, ← Nat.add_assoc P, ← hf3]
          refine e2.trans ?_
          rw [show ((k + 1 : Nat) : Int) + -1 = (k : Int) by omega]
        · rw [if_neg c]
          have sk : bsV ct w (P + g * 8 ^ d + 8 ^ d) = bsV ct w (P + g * 8 ^ d) := bs_skip hct (8 ^ d) (fun x hx' => by
            have e1 : rvG ct w (P + g * 8 ^ d + x) (k + 1) = -1 := by
              rw [rv_s, dk x hx']
              by_cases q1 : ct k g = -1
              · rw [if_pos (Or.inr (Or.inl q1))]
              · have q2 : tkB w (P + g * 8 ^ d + x) g k = true := by
                  by_cases q3 : tkB w (P + g * 8 ^ d + x) g k = true
                  · exact q3
                  · exact absurd (hnt.mpr ⟨q1, fun j hj q4 => q3 ((tk_t k).mpr ⟨j, hj, by
                      rw [if_neg (by omega)] at q4
                      rw [dp x hx' j hj]; exact q4⟩)⟩) c
                rw [if_pos (Or.inr (Or.inr q2))]
            have := rv_m e1 (w - (k + 1))
            rw [show k + 1 + (w - (k + 1)) = w by omega] at this
            exact this)
          obtain ⟨M3, f4, hf4, hO3, e3⟩ := ihr (g + 1) (setI M (B + 128) k (iI (g : Int))) (fpT d + fuel) (by omega) ⟨hA1, fun i hi => by
            have := ht1 i (by omega)
            rw [if_neg (by omega)] at this
            exact this, by rw [hgs, ← Nat.add_assoc, sk]; exact hb1⟩ (by rw [mI_s]; congr 1; omega)
          refine ⟨M3, f4, by omega, hO3, ?_⟩
          rw [← e3, hgs, ← Nat.add_assoc P, sk, show fpT d + (r * (fpT d + 1) + 1 + fuel) = r * (fpT d + 1) + 1 + (fpT d + fuel) by omega]
    have := inner 8 0 M fuel (by omega) (by rw [Nat.zero_mul]; exact h) (by rw [hm]; rfl)
    rw [Nat.zero_mul] at this
    rw [show fpT (d + 1) + fuel = 8 * (fpT d + 1) + 1 + fuel by show 8 * fpT d + 9 + fuel = _; omega]
    exact this
theorem place_m (hS : ShOK S B) (hw : w ≤ 3) (hn : 100000 ≤ n) (hct : ∀ b f, b < w → f < 8 → -1 ≤ ct b f ∧ ct b f ≤ 891) (h127 : ∀ b f : Nat, b < w → f < 8 → mI M (B + 127) (8 * b + f) = iI (ct b f)) (hr0 : mI M (B + 107) 0 = iI (w : Int)) {R : Nat} (hR : R = 8 ^ w) : ∃ M', F_Mo_findPlaced n E S (B + 105) M = some (iI (bsV ct w R).1, M') ∧ ((bsV ct w R).1 ≠ -1 → ∀ i, i < w → mI M' (B + 129) i = iI ((dg w (bsV ct w R).2.toNat i : Nat) : Int)) ∧ zAg (fun b j => b = B + 128 ∨ b = B + 129) M M' := by
  have hR5 : 8 ^ w ≤ 512 := by
    rcases (show w = 0 ∨ w = 1 ∨ w = 2 ∨ w = 3 by omega) with q | q | q | q <;> rw [q] <;> decide
  have hT : fpT w ≤ 2000 := by
    rcases (show w = 0 ∨ w = 1 ∨ w = 2 ∨ w = 3 by omega) with q | q | q | q <;> rw [q] <;> decide
  obtain ⟨M', f', hf, hO, e⟩ := fp_lv (n := n) (E := E) (M0 := M) hS hw (by omega) hct h127 rfl w 0 (fun _ => 0) 0 (setI M (B + 128) 0 (iI (-1))) (n - fpT w) (by omega) (fun x hx i hi => by omega) (fun x hx => show (0 : Int) ≠ -1 by decide) (Nat.zero_mod _) (by omega) ⟨zAg.rfl'.setI (Or.inl rfl), fun i hi => by omega, fun q => absurd rfl q⟩ mI_s
  rw [show fpT w + (n - fpT w) = n by omega, Nat.zero_add, ← hR] at e
  rw [Nat.zero_add, ← hR] at hO
  refine ⟨M', ?_, hO.2.2, hO.1⟩
  unfold F_Mo_findPlaced F_Mo_findPlaced_b18
  rw [hS.g105_3, obs, iL0, hS.r107 (by omega) (by omega), obs, tn0, hr0, hS.g105_43, obs, iL1, iI_neg, hS.w128 (by omega) (by omega), obs, tn0]
  refine e.trans ?_
  obtain ⟨f2, hf2⟩ : ∃ f2, f' = f2 + 1 := ⟨f' - 1, by omega⟩
  rw [hf2]
  show F_Mo_findPlaced_L18 n E S _ (B + 105) (iI (w : Int)) (iI (bsV ct w R).1) (iI (((0 : Nat) : Int) + -1)) M' = _
  unfold F_Mo_findPlaced_L18
  rw [iL0, if_pos (cltT (by omega) (by omega) (by omega))]
theorem c_placed (h : Inv S M B) (hn : 100000 ≤ n) {x y : Int} (hx : zR x) (hy : zR y) : Ag1 S B M (fun M => F_NC_placed n E S (B + 0) (iI x) (iI y) M) (fun M => F_Mo_placed n E S (B + 105) (iI x) (iI y) M) := by
  have hS := h.1
  have hx1 := hx.1
  have hx2 := hx.2
  have hy1 := hy.1
  have hy2 := hy.2
  refine Ag1.qr h (fun N Ls => iI (if (1 ≤ x ∧ x ≤ 9) ∧ (0 ≤ y ∧ y ≤ N 11 0) then (if (bsV (ctV N Ls x.toNat) (N 11 0).toNat (8 ^ (N 11 0).toNat)).1 = -1 ∨ y = 0 then (bsV (ctV N Ls x.toNat) (N 11 0).toNat (8 ^ (N 11 0).toNat)).1 else ((dg (N 11 0).toNat (bsV (ctV N Ls x.toNat) (N 11 0).toNat (8 ^ (N 11 0).toNat)).2.toNat (y - 1).toNat : Nat) : Int)) else -1)) (fun N Ls hC hh => ?_) (fun M N Ls hM hh => ?_)
  · show ∃ M', F_NC_placed n E S (B + 0) (iI x) (iI y) M = _ ∧ _
    have hN := hC.2.1
    have hnb := hN.nb
    have hI := nA1.ni hS
    generalize hw : (N 11 0).toNat = w
    have hwN : N 11 0 = (w : Int) := by omega
    generalize hR : 8 ^ w = R
    have hR5 : R ≤ 512 := by
      rw [← hR]
      rcases (show w = 0 ∨ w = 1 ∨ w = 2 ∨ w = 3 by omega) with q | q | q | q <;> rw [q] <;> decide
    unfold F_NC_placed
    rw [iL1, iL9, s_withinI hx (zR_of (by omega) (by omega)) (zR_of (by omega) (by omega)), obs]
    by_cases c1 : 1 ≤ x ∧ x ≤ 9
    · have hct : ∀ b f, b < w → f < 8 → -1 ≤ ctV N Ls x.toNat b f ∧ ctV N Ls x.toNat b f ≤ 891 := fun b f hb hf => ctV_b hN hh (by omega) (by omega) hf
      have hbb := bs_b hct R
      have b33 : 0 ≤ y → y ≤ N 11 0 → ∃ M', F_NC_placed_b33 n E S (B + 0) (iI x) (iI y) M = some (iI (if (bsV (ctV N Ls x.toNat) w R).1 = -1 ∨ y = 0 then (bsV (ctV N Ls x.toNat) w R).1 else ((dg w (bsV (ctV N Ls x.toNat) w R).2.toNat (y - 1).toNat : Nat) : Int)), M') ∧ zAg (cQ B) M M' := fun q1 q2 => by
        obtain ⟨M1, e1, h8, h9, hA⟩ := place_c (n := n) (E := E) hS hC hh hn (hrs := x.toNat) (by omega) hwN (by omega) hR.symm
        rw [show ((x.toNat : Nat) : Int) = x by omega] at e1
        refine ⟨M1, ?_, hA⟩
        unfold F_NC_placed_b33
        rw [hS.g0_12, obs, hS.g0_0, obs, hS.ck85, obs, e1, obs]
        by_cases c2 : (bsV (ctV N Ls x.toNat) w R).1 = -1
        · rw [if_neg (fun q => (of_decide_eq_true q) c2), if_pos (Or.inl c2), c2, iL1, iI_neg]
        · rw [if_pos (decide_eq_true c2)]
          by_cases c3 : y = 0
          · rw [iL0, if_pos (ceqT c3), hS.i85, obs, h8, if_pos (Or.inr c3)]
          · have hC1 := hC.cq hA
            rw [iL0, if_neg (ceqF c3 (by omega) (by omega) (by omega) (by omega)), hI.i11 hC1.1, obs, hwN, iI_sub, if_neg (fun q => by rcases q with q | q; exact c2 q; exact c3 q)]
            unfold F_Pa_digitOfChoice
            rw [iL0, iL9, s_withinI (zR_of (by omega) (by omega)) (zR_of (by omega) (by omega)) (zR_of (by omega) (by omega)), obs, if_pos (decide_eq_true (show 0 ≤ (w : Int) - y ∧ (w : Int) - y ≤ 9 by omega)), hS.i85, obs, h9 c2, iL3, iL31, iL7, iI_mul, xshr (by omega) (by omega) (by omega) (by omega), xand7, obs]
            show some (iI _, M1) = some (iI _, M1)
            congr 3
            unfold dg
            obtain ⟨v, hv⟩ : ∃ v : Nat, (bsV (ctV N Ls x.toNat) w R).2 = (v : Int) := ⟨(bsV (ctV N Ls x.toNat) w R).2.toNat, by omega⟩
            rw [hv, Int.toNat_natCast]
            rcases (show w - 1 - (y - 1).toNat = 0 ∨ w - 1 - (y - 1).toNat = 1 ∨ w - 1 - (y - 1).toNat = 2 by omega) with q | q | q
            · rw [q, show (3 * ((w : Int) - y)).toNat = 0 by omega]
              show (v : Int) / 1 % 8 = ((v / 1 % 8 : Nat) : Int); omega
            · rw [q, show (3 * ((w : Int) - y)).toNat = 3 by omega]
              show (v : Int) / 8 % 8 = ((v / 8 % 8 : Nat) : Int); omega
            · rw [q, show (3 * ((w : Int) - y)).toNat = 6 by omega]
              show (v : Int) / 64 % 8 = ((v / 64 % 8 : Nat) : Int); omega
      rw [if_pos (decide_eq_true c1), iL0]
      by_cases c2 : y < 0
      · rw [if_pos (cltT c2 (by omega) (by omega)), if_neg (fun q => by omega), iI_neg]; exact ⟨M, rfl, zAg.rfl'⟩
      · rw [if_neg (cltF (by omega) (by omega) (by omega))]
        by_cases c3 : y ≤ 0
        · rw [if_pos (cleT (by omega) (by omega) (by omega)), if_pos (show (1 ≤ x ∧ x ≤ 9) ∧ (0 ≤ y ∧ y ≤ N 11 0) from ⟨c1, by omega, by omega⟩)]
          exact b33 (by omega) (by omega)
        · rw [if_neg (cleF (by omega) (by omega) (by omega)), hS.g0_0, obs, hI.ck, obs, iI_sub, s_hasBucket hI hC.1 hN ⟨by omega, by omega⟩, obs]
          by_cases c4 : 0 ≤ y - 1 ∧ y - 1 ≤ N 11 0 - 1
          · rw [if_pos (decide_eq_true c4), if_pos (show (1 ≤ x ∧ x ≤ 9) ∧ (0 ≤ y ∧ y ≤ N 11 0) from ⟨c1, by omega, by omega⟩)]
            exact b33 (by omega) (by omega)
          · rw [if_neg (fun q => c4 (of_decide_eq_true q)), if_neg (fun q => by omega), iI_neg]; exact ⟨M, rfl, zAg.rfl'⟩
    · rw [if_neg (fun q => c1 (of_decide_eq_true q)), if_neg (fun q => c1 q.1), iI_neg]; exact ⟨M, rfl, zAg.rfl'⟩
  · show ∃ M', F_Mo_placed n E S (B + 105) (iI x) (iI y) M = _ ∧ _
    have hM0 := hM.mq (mQ_0 (M := M))
    have hN := hM.2.2.1
    have hnb := hN.nb
    generalize hw : (N 11 0).toNat = w
    have hwN : N 11 0 = (w : Int) := by omega
    generalize hR : 8 ^ w = R
    unfold F_Mo_placed F_Mo_placed_b54
    rw [iL0, hS.p105, obs, xJ hx1 hx2, jL1, show (9 : Int64) = jJ 9 by decide, s_in (by omega) (by omega) (by omega) (by omega) (by omega) (by omega), obs]
    by_cases c1 : 1 ≤ x ∧ x ≤ 9
    · have hct : ∀ b f, b < w → f < 8 → -1 ≤ ctV N Ls x.toNat b f ∧ ctV N Ls x.toNat b f ≤ 891 := fun b f hb hf => ctV_b hN hh (by omega) (by omega) hf
      have hbb := bs_b hct R
      rw [if_pos (decide_eq_true c1), hS.g105_3, obs, hS.r107 (by omega) (by omega), obs, tn0, hM0.2.1.nb, xJ hy1 hy2, xJ (by omega) (by omega), jL0, s_in (by omega) (by omega) (by omega) (by omega) (by omega) (by omega), obs]
      by_cases c2 : 0 ≤ y ∧ y ≤ N 11 0
      · obtain ⟨M1, e1, h1, hP1⟩ := s_layCaught (n := n) (E := E) hS hM0 hh (by omega) (hrs := x.toNat) (by omega)
        rw [show ((x.toNat : Nat) : Int) = x by omega] at e1
        have hM1 : MN M1 B N Ls := ⟨by rw [(hP1.1 _ _ (fun z => by unfold mQ at z; omega)).1]; exact hM0.1, hM0.2.1.cg (fun i _ => hP1.2 i), hM0.2.2.1, fun j hj hl => (hM0.2.2.2 j hj hl).cg (fun i _ _ => hP1.2 i)⟩
        obtain ⟨M2, e2, h2, hA2⟩ := place_m (n := n) (E := E) (w := w) hS (by omega) hn hct (fun b f hb hf => h1 b f (by omega) hf) (by rw [hM1.2.1.nb, hwN]) hR.symm
        have hP2 : mP B M M2 := (mP_0.trans hP1).trans (mP.q (hA2.mono (fun b j q => by unfold mQ; omega)))
        rw [if_pos (decide_eq_true c2), if_pos (show (1 ≤ x ∧ x ≤ 9) ∧ (0 ≤ y ∧ y ≤ N 11 0) from ⟨c1, c2⟩), e1, obs, e2, obs, iL1, iI_neg]
        refine ⟨M2, ?_, hP2⟩
        by_cases c3 : (bsV (ctV N Ls x.toNat) w R).1 = -1
        · rw [if_pos (Or.inl c3), if_pos (ceqT c3)]
        · rw [if_neg (ceqF c3 (by omega) (by omega) (by omega) (by omega))]
          by_cases c4 : y = 0
          · rw [if_pos (Or.inr c4), if_pos (ceqT c4)]
          · rw [if_neg (ceqF c4 (by omega) (by omega) (by omega) (by omega)), if_neg (fun q => by rcases q with q | q; exact c3 q; exact c4 q), hS.g105_44, obs, iI_sub, hS.r129 (by omega) (by omega), obs, h2 c3 _ (by omega)]
      · rw [if_neg (fun q => c2 (of_decide_eq_true q)), if_neg (fun q => c2 q.2), iL1, iI_neg]; exact ⟨_, rfl, mP_0⟩
    · rw [if_neg (fun q => c1 (of_decide_eq_true q)), if_neg (fun q => c1 q.1), iL1, iI_neg]; exact ⟨_, rfl, mP_0⟩
end
