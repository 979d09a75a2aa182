/-! law and orders: the model's reading of tokens -/
def TM (M : zH) (B : Nat) (tb : Nat → Int) (l : Nat) : Prop := l ≤ 400 ∧ mI M (B + 105) 13 = iI (l : Int) ∧ ∀ k, k < l → 0 ≤ tb k ∧ tb k < 256 ∧ mI M (B + 114) k = iI (tb k)
/-- the model stands at the token that begins at s -/
def LM (M : zH) (B : Nat) (tb : Nat → Int) (l s : Nat) : Prop := TM M B tb l ∧ s ≤ l ∧ mI M (B + 105) 14 = iI (s : Int) ∧ mI M (B + 105) 15 = iI (tE tb l s : Int) ∧ mI M (B + 105) 16 = iI (kdT tb l s : Int) ∧ mJ M (B + 105) 17 = jJ (wT tb l s)
section
variable {n : Nat} {E : zE} {S : zS} {M M' : zH} {B : Nat} {tb : Nat → Int} {l : Nat}
theorem TM.ag {X : Nat → Nat → Prop} (h : TM M B tb l) (hA : zAg X M M') (h1 : ¬ X (B + 105) 13) (h2 : ∀ j, ¬ X (B + 114) j) : TM M' B tb l := ⟨h.1, by rw [(hA _ _ h1).1]; exact h.2.1, fun k hk => by rw [(hA _ _ (h2 k)).1]; exact h.2.2 k hk⟩
theorem LM.ag {X : Nat → Nat → Prop} {s : Nat} (h : LM M B tb l s) (hA : zAg X M M') (h1 : ∀ j, 13 ≤ j → j ≤ 17 → ¬ X (B + 105) j) (h2 : ∀ j, ¬ X (B + 114) j) : LM M' B tb l s := ⟨h.1.ag hA (h1 _ (by decide) (by decide)) h2, h.2.1, by rw [(hA _ _ (h1 14 (by decide) (by decide))).1]; exact h.2.2.1, by rw [(hA _ _ (h1 15 (by decide) (by decide))).1]; exact h.2.2.2.1, by rw [(hA _ _ (h1 16 (by decide) (by decide))).1]; exact h.2.2.2.2.1, by rw [(hA _ _ (h1 17 (by decide) (by decide))).2.1]; exact h.2.2.2.2.2⟩
theorem TM.rd (hS : ShOK S B) (h : TM M B tb l) {k : Nat} (hk : k < l) : zldI S M (B + 114) (iI (k : Int)) = some (iI (tb k)) := by
  have := h.1
  rw [hS.r114 (by omega) (by omega), Int.toNat_natCast, (h.2.2 k hk).2.2]
theorem s_isSm {x : Int} (hx : zR x) : F_Mo_isSmall n E S (iI x) M = some (isL x, M) := by
  have h1 := hx.1
  have h2 := hx.2
  unfold F_Mo_isSmall isL
  rw [show (97 : Int32) = iI 97 by decide, show (122 : Int32) = iI 122 by decide]
  by_cases c1 : x < 97
  · rw [if_pos (cltT (by omega) (by omega) (by omega)), decide_eq_false (fun q => by omega)]
  · rw [if_neg (cltF (by omega) (by omega) (by omega))]
    by_cases c2 : 122 < x
    · rw [if_pos (cltT (by omega) (by omega) (by omega)), decide_eq_false (fun q => by omega)]
    · rw [if_neg (cltF (by omega) (by omega) (by omega)), decide_eq_true (by omega)]
theorem s_isDi {x : Int} (hx : zR x) : F_Mo_isDigit n E S (iI x) M = some (isD x, M) := by
  have h1 := hx.1
  have h2 := hx.2
  unfold F_Mo_isDigit isD
  rw [show (48 : Int32) = iI 48 by decide, show (57 : Int32) = iI 57 by decide]
  by_cases c1 : x < 48
  · rw [if_pos (cltT (by omega) (by omega) (by omega)), decide_eq_false (fun q => by omega)]
  · rw [if_neg (cltF (by omega) (by omega) (by omega))]
    by_cases c2 : 57 < x
    · rw [if_pos (cltT (by omega) (by omega) (by omega)), decide_eq_false (fun q => by omega)]
    · rw [if_neg (cltF (by omega) (by omega) (by omega)), decide_eq_true (by omega)]
def mtX (B : Nat) : Nat → Nat → Prop := fun b j => b = B + 105 ∧ 14 ≤ j ∧ j ≤ 17
theorem nD_b {s : Nat} : ∀ i, (∀ q, s ≤ q → q < s + i → isD (tb q) = true) → 0 ≤ nD tb s i ∧ nD tb s i ≤ 10000009 := by
  intro i
  induction i with
  | zero => intro _; exact ⟨Int.le_refl 0, show (0 : Int) ≤ 10000009 by decide⟩
  | succ i ih =>
    intro h
    have h1 := ih (fun q q1 q2 => h q q1 (by omega))
    have h2 := of_decide_eq_true (h (s + i) (by omega) (by omega))
    show 0 ≤ (if nD tb s i ≤ 1000000 then nD tb s i * 10 + tb (s + i) - 48 else nD tb s i) ∧ (if nD tb s i ≤ 1000000 then nD tb s i * 10 + tb (s + i) - 48 else nD tb s i) ≤ 10000009
    split <;> omega
/-- the digits' loop, or none -/
theorem m_dig (hS : ShOK S B) (hn : 1000 ≤ n) (hT : TM M B tb l) {s : Nat} (hs : s ≤ l) (k : Nat) (h16 : mI M (B + 105) 16 = iI (k : Int)) (hk : k ≤ 3) (h2 : k = 2 → mI M (B + 105) 15 = iI (s : Int) ∧ mJ M (B + 105) 17 = jJ 0) : ∃ M', F_Mo_next_b243 n E S (B + 105, M) = some M' ∧ (k = 2 → mI M' (B + 105) 15 = iI (sE isD tb l s : Int) ∧ mJ M' (B + 105) 17 = jJ (nD tb s (sE isD tb l s - s))) ∧ zAg (fun b j => k = 2 ∧ b = B + 105 ∧ (j = 15 ∨ j = 17)) M M' := by
  have hl := hT.1
  unfold F_Mo_next_b243
  by_cases c : k = 2
  · obtain ⟨d1, d2, d3, d4⟩ := sE_ok (c := isD) (tb := tb) (l := l) (p := s) hs
    obtain ⟨s3, w3, ⟨M3, hs3, h3, h5, hA3⟩, e3⟩ := zfix_inv (F := fun r243 s => F_Mo_next_L243 n E S r243 s.1 s.2) (fun i st => ∃ M3, st = (B + 105, M3) ∧ mI M3 (B + 105) 15 = iI ((s + i : Nat) : Int) ∧ mJ M3 (B + 105) 17 = jJ (nD tb s i) ∧ zAg (fun b j => k = 2 ∧ b = B + 105 ∧ (j = 15 ∨ j = 17)) M M3) (sE isD tb l s - s) (fun i hi st hI' => by
      obtain ⟨M3, rfl, h3, h5, hA3⟩ := hI'
      have hT3 : TM M3 B tb l := hT.ag hA3 (by omega) (fun j => by omega)
      have hb := d3 (s + i) (by omega) (by omega)
      have hb' := of_decide_eq_true hb
      have hx := hT.2.2 (s + i) (by omega)
      have hv := nD_b (tb := tb) (s := s) i (fun q q1 q2 => d3 q q1 (by omega))
      have e16 : mI M3 (B + 105) 16 = iI 2 := by rw [(hA3 _ _ (by omega)).1, h16, c]; rfl
      refine ⟨(B + 105, setI (setJ M3 (B + 105) 17 (jJ (nD tb s (i + 1)))) (B + 105) 15 (iI (((s + i : Nat) : Int) + 1))), ⟨_, rfl, mI_s, ?_, ?_⟩, fun rec => ?_⟩
      · rw [mJ_setI, mJ_ite, if_pos ⟨rfl, rfl⟩]
      · exact (hA3.setJ ⟨c, rfl, Or.inr rfl⟩).setI ⟨c, rfl, Or.inl rfl⟩
      · show F_Mo_next_L243 n E S rec (B + 105) M3 = _
        unfold F_Mo_next_L243 F_Mo_next_b319
        rw [hS.i105, obs, e16, show (2 : Int32) = iI 2 by decide, if_pos rfl, hS.i105, obs, hS.i105, obs, h3, hT3.2.1, if_neg (cleF (by omega) (by omega) (by omega)), hS.g105_12, obs, obs, hT3.rd hS (by omega), obs, s_isDi (zR_of (by omega) (by omega)), obs, if_pos hb, hS.ij105 (M := M3), obs, h5]
        have e1 : nD tb s (i + 1) = if nD tb s i ≤ 1000000 then nD tb s i * 10 + tb (s + i) - 48 else nD tb s i := rfl
        rw [show (1000000 : Int64) = jJ 1000000 by decide, e1]
        by_cases q : nD tb s i ≤ 1000000
        · rw [if_pos ((yle (by omega) (by omega) (by omega) (by omega)).mpr q), if_pos q, obs, hS.i105 (M := M3), obs, h3, hT3.rd hS (by omega), obs, xJ (by omega) (by omega), jL10, jJ_mul, jJ_add, show (48 : Int64) = jJ 48 by decide, jJ_sub, hS.pj105 (M := M3), obs, hS.i105, obs, show mI (setJ M3 (B + 105) 17 (jJ (nD tb s i * 10 + tb (s + i) - 48))) (B + 105) 15 = iI ((s + i : Nat) : Int) from h3, iL1, iI_add, hS.p105, obs]
        · rw [if_neg (fun z => q ((yle (by omega) (by omega) (by omega) (by omega)).mp z)), if_neg q, obs, hS.pj105 (M := M3), obs, hS.i105, obs, show mI (setJ M3 (B + 105) 17 (jJ (nD tb s i))) (B + 105) 15 = iI ((s + i : Nat) : Int) from h3, iL1, iI_add, hS.p105, obs]) n 0 (B + 105, M) (by omega) (by omega) ⟨_, rfl, (h2 c).1, (h2 c).2, zAg.rfl'⟩
    rw [show s + (sE isD tb l s - s) = sE isD tb l s by omega] at h3
    have hT3 : TM M3 B tb l := hT.ag hA3 (by omega) (fun j => by omega)
    have e16 : mI M3 (B + 105) 16 = iI 2 := by rw [(hA3 _ _ (by omega)).1, h16, c]; rfl
    refine ⟨M3, ?_, fun _ => ⟨h3, h5⟩, hA3⟩
    refine e3.trans ?_
    rw [hs3]
    show F_Mo_next_L243 n E S _ (B + 105) M3 = _
    unfold F_Mo_next_L243
    rw [hS.i105, obs, e16, show (2 : Int32) = iI 2 by decide, if_pos rfl, hS.i105, obs, hS.i105, obs, h3, hT3.2.1]
    by_cases z : l ≤ sE isD tb l s
    · rw [if_pos (cleT (by omega) (by omega) (by omega))]
    · have hx := hT.2.2 (sE isD tb l s) (by omega)
      rw [if_neg (cleF (by omega) (by omega) (by omega)), hS.g105_12, obs, obs, hT3.rd hS (by omega), obs, s_isDi (zR_of (by omega) (by omega)), obs, if_neg (nbT (d4 (by omega)))]
  · obtain ⟨n', hn'⟩ : ∃ n', n = n' + 1 := ⟨n - 1, by omega⟩
    generalize hF : (fun r243 (s : Nat × zH) => F_Mo_next_L243 n E S r243 s.1 s.2) = F
    have e : zfix F n = F (zfix F n') := by rw [hn']; rfl
    refine ⟨M, ?_, fun z => absurd z c, zAg.rfl'⟩
    rw [e, ← hF]
    show F_Mo_next_L243 n E S _ (B + 105) M = _
    unfold F_Mo_next_L243
    rw [hS.i105, obs, h16, show (2 : Int32) = iI 2 by decide, if_neg (ceqF (show ¬ (k : Int) = 2 by omega) (by omega) (by omega) (by omega) (by omega))]
theorem hW_b {s : Nat} : ∀ i, (∀ q, s ≤ q → q < s + i → isL (tb q) = true) → i ≤ 10 → 0 ≤ hW tb s i ∧ hW tb s i < 32 ^ i := by
  intro i
  induction i with
  | zero => intro _ _; exact ⟨Int.le_refl 0, show (0 : Int) < 1 by decide⟩
  | succ i ih =>
    intro h hi
    have h1 := ih (fun q q1 q2 => h q q1 (by omega)) (by omega)
    have h2 := of_decide_eq_true (h (s + i) (by omega) (by omega))
    show 0 ≤ (if i < 10 then hW tb s i * 32 + tb (s + i) - 96 else -1) ∧ (if i < 10 then hW tb s i * 32 + tb (s + i) - 96 else -1) < 32 ^ (i + 1)
    rw [if_pos (by omega), Int.pow_succ]
    omega
theorem hW_b' {s : Nat} : ∀ i, (∀ q, s ≤ q → q < s + i → isL (tb q) = true) → -1 ≤ hW tb s i ∧ hW tb s i < 2000000000000000 := by
  intro i h
  by_cases c : i ≤ 10
  · have h1 := hW_b (tb := tb) (s := s) i h c
    have h2 : (32 : Int) ^ i ≤ 32 ^ 10 := by
      have := Nat.pow_le_pow_right (show 0 < 32 by decide) c
      exact_mod_cast this
    have h3 : (32 : Int) ^ 10 = 1125899906842624 := by decide
    omega
  · obtain ⟨j, rfl⟩ : ∃ j, i = j + 1 := ⟨i - 1, by omega⟩
    have e : hW tb s (j + 1) = if j < 10 then hW tb s j * 32 + tb (s + j) - 96 else -1 := rfl
    rw [e, if_neg (by omega)]
    decide
theorem m_wrd (hS : ShOK S B) (hn : 1000 ≤ n) (hT : TM M B tb l) {s : Nat} (hs : s ≤ l) (k : Nat) (h14 : mI M (B + 105) 14 = iI (s : Int)) (h16 : mI M (B + 105) 16 = iI (k : Int)) (hk : k ≤ 3) (h2 : k = 1 ∨ k = 2 → mI M (B + 105) 15 = iI (s : Int) ∧ mJ M (B + 105) 17 = jJ 0) : ∃ M', F_Mo_next_b149 n E S (B + 105, M) = some M' ∧ (k = 1 → mI M' (B + 105) 15 = iI (sE isL tb l s : Int) ∧ mJ M' (B + 105) 17 = jJ (hW tb s (sE isL tb l s - s))) ∧ (k = 2 → mI M' (B + 105) 15 = iI (sE isD tb l s : Int) ∧ mJ M' (B + 105) 17 = jJ (nD tb s (sE isD tb l s - s))) ∧ zAg (fun b j => (k = 1 ∨ k = 2) ∧ b = B + 105 ∧ (j = 15 ∨ j = 17)) M M' := by
  have hl := hT.1
  unfold F_Mo_next_b149
  by_cases c : k = 1
  · obtain ⟨d1, d2, d3, d4⟩ := sE_ok (c := isL) (tb := tb) (l := l) (p := s) hs
    obtain ⟨s3, w3, ⟨M3, hs3, h3, h5, hA3⟩, e3⟩ := zfix_inv (F := fun r149 s => F_Mo_next_L149 n E S r149 s.1 s.2) (fun i st => ∃ M3, st = (B + 105, M3) ∧ mI M3 (B + 105) 15 = iI ((s + i : Nat) : Int) ∧ mJ M3 (B + 105) 17 = jJ (hW tb s i) ∧ zAg (fun b j => (k = 1 ∨ k = 2) ∧ b = B + 105 ∧ (j = 15 ∨ j = 17)) M M3) (sE isL tb l s - s) (fun i hi st hI' => by
      obtain ⟨M3, rfl, h3, h5, hA3⟩ := hI'
      have hT3 : TM M3 B tb l := hT.ag hA3 (by omega) (fun j => by omega)
      have hb := d3 (s + i) (by omega) (by omega)
      have hb' := of_decide_eq_true hb
      have hx := hT.2.2 (s + i) (by omega)
      have hv := hW_b' (tb := tb) (s := s) i (fun q q1 q2 => d3 q q1 (by omega))
      have e16 : mI M3 (B + 105) 16 = iI 1 := by rw [(hA3 _ _ (by omega)).1, h16, c]; rfl
      have e14 : mI M3 (B + 105) 14 = iI (s : Int) := by rw [(hA3 _ _ (by omega)).1, h14]
      refine ⟨(B + 105, setI (setJ M3 (B + 105) 17 (jJ (hW tb s (i + 1)))) (B + 105) 15 (iI (((s + i : Nat) : Int) + 1))), ⟨_, rfl, mI_s, ?_, ?_⟩, fun rec => ?_⟩
      · rw [mJ_setI, mJ_ite, if_pos ⟨rfl, rfl⟩]
      · exact (hA3.setJ ⟨Or.inl c, rfl, Or.inr rfl⟩).setI ⟨Or.inl c, rfl, Or.inl rfl⟩
      · show F_Mo_next_L149 n E S rec (B + 105) M3 = _
        unfold F_Mo_next_L149 F_Mo_next_b227
        have e1 : hW tb s (i + 1) = if i < 10 then hW tb s i * 32 + tb (s + i) - 96 else -1 := rfl
        rw [hS.i105, obs, e16, iL1, if_pos rfl, hS.i105, obs, hS.i105, obs, h3, hT3.2.1, if_neg (cleF (by omega) (by omega) (by omega)), hS.g105_12, obs, obs, hT3.rd hS (by omega), obs, s_isSm (zR_of (by omega) (by omega)), obs, if_pos hb, hS.i105 (M := M3), obs, hS.i105 (M := M3), obs, h3, e14, iI_sub, show (10 : Int32) = iI 10 by decide, e1]
        by_cases q : i < 10
        · rw [if_neg (cleF (by omega) (by omega) (by omega)), if_pos q, hS.ij105 (M := M3), obs, h5, obs, hT3.rd hS (by omega), obs, xJ (by omega) (by omega), show (32 : Int64) = jJ 32 by decide, jJ_mul, jJ_add, show (96 : Int64) = jJ 96 by decide, jJ_sub, hS.pj105 (M := M3), obs, hS.i105, obs, show mI (setJ M3 (B + 105) 17 (jJ (hW tb s i * 32 + tb (s + i) - 96))) (B + 105) 15 = iI ((s + i : Nat) : Int) from h3, iI_add, hS.p105, obs]
        · rw [if_pos (cleT (by omega) (by omega) (by omega)), if_neg q, show (-1 : Int64) = jJ (-1) by decide, hS.pj105 (M := M3), obs, hS.i105, obs, show mI (setJ M3 (B + 105) 17 (jJ (-1))) (B + 105) 15 = iI ((s + i : Nat) : Int) from h3, iI_add, hS.p105, obs]) n 0 (B + 105, M) (by omega) (by omega) ⟨_, rfl, (h2 (Or.inl c)).1, (h2 (Or.inl c)).2, zAg.rfl'⟩
    rw [show s + (sE isL tb l s - s) = sE isL tb l s by omega] at h3
    have hT3 : TM M3 B tb l := hT.ag hA3 (by omega) (fun j => by omega)
    have e16 : mI M3 (B + 105) 16 = iI (k : Int) := by rw [(hA3 _ _ (by omega)).1, h16]
    obtain ⟨M4, e4, _, hA4⟩ := m_dig (n := n) (E := E) hS hn hT3 hs k e16 hk (fun z => by omega)
    refine ⟨M4, ?_, fun _ => ⟨by rw [(hA4 _ _ (by omega)).1]; exact h3, by rw [(hA4 _ _ (by omega)).2.1]; exact h5⟩, fun z => by omega, hA3.trans (hA4.mono (fun b j q => by omega))⟩
    refine e3.trans ?_
    rw [hs3]
    show F_Mo_next_L149 n E S _ (B + 105) M3 = _
    unfold F_Mo_next_L149
    rw [hS.i105, obs, e16, iL1, if_pos (ceqT (by omega)), hS.i105, obs, hS.i105, obs, h3, hT3.2.1]
    by_cases z : l ≤ sE isL tb l s
    · rw [if_pos (cleT (by omega) (by omega) (by omega))]; exact e4
    · have hx := hT.2.2 (sE isL tb l s) (by omega)
      rw [if_neg (cleF (by omega) (by omega) (by omega)), hS.g105_12, obs, obs, hT3.rd hS (by omega), obs, s_isSm (zR_of (by omega) (by omega)), obs, if_neg (nbT (d4 (by omega)))]
      exact e4
  · obtain ⟨n', hn'⟩ : ∃ n', n = n' + 1 := ⟨n - 1, by omega⟩
    generalize hF : (fun r149 (s : Nat × zH) => F_Mo_next_L149 n E S r149 s.1 s.2) = F
    have e : zfix F n = F (zfix F n') := by rw [hn']; rfl
    obtain ⟨M4, e4, h4, hA4⟩ := m_dig (n := n) (E := E) hS hn hT hs k h16 hk (fun z => h2 (Or.inr z))
    refine ⟨M4, ?_, fun z => absurd z c, h4, hA4.mono (fun b j q => ⟨Or.inr q.1, q.2⟩)⟩
    rw [e, ← hF]
    show F_Mo_next_L149 n E S _ (B + 105) M = _
    unfold F_Mo_next_L149
    rw [hS.i105, obs, h16, iL1, if_neg (ceqF (show ¬ (k : Int) = 1 by omega) (by omega) (by omega) (by omega) (by omega))]
    exact e4
end
