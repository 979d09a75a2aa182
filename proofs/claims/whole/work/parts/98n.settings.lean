/-! CASES (11): settings, turned -/
/-- the rest of what was seen fits -/
def fitG (N : Nt) (Ls : Nat → Lw) (s : Nat) : Nat → Nat → Bool
  | 0, _ => true
  | r + 1, i => if thV N Ls s (N 7 i) = N 8 i then fitG N Ls s r (i + 1) else false
def fitV (N : Nt) (Ls : Nat → Lw) (s : Nat) : Bool := fitG N Ls s (N 12 0).toNat 0
theorem zbl1 : zbl (iI 1) = some true := by decide
theorem zbl0 : zbl (iI 0) = some false := by decide
section
variable {n : Nat} {E : zE} {S : zS} {M M' : zH} {B : Nat} {N N' : Nt} {Ls : Nat → Lw}
theorem NdOK.sf (h : NdOK N) {k : Nat} (hk : k < 6) : 0 ≤ N 7 k ∧ N 7 k < 8 := h.2.2.2.2.2.2.2.1 k hk
theorem NdOK.st (h : NdOK N) {k : Nat} (hk : k < 6) : 0 ≤ N 8 k ∧ N 8 k ≤ 400 := h.2.2.2.2.2.2.2.2.1 k hk
theorem fit_c (hS : ShOK S B) (hC : CN S M B (B + 1) N Ls) (hsh : ∀ q, q < 256 → mI M (B + 98) q = iI (shQ N Ls q)) {s : Nat} (hs : s < 4096) : ∀ (r i k : Nat), r + i = (N 12 0).toNat → r < k → zfix (fun r2 s => F_Pa_fitsSeen_L2 n E S r2 s.1 s.2.1 s.2.2.1 s.2.2.2.1 s.2.2.2.2) k (B + 85, B + 1, iI (s : Int), iI (i : Int), M) = some (fitG N Ls s r i, M) := by
  have hN := hC.2.1
  have hI := nA1.ni hS
  have hns := hN.ns
  intro r
  induction r with
  | zero =>
    intro i k hr hk
    obtain ⟨k, rfl⟩ : ∃ k', k = k' + 1 := ⟨k - 1, by omega⟩
    show F_Pa_fitsSeen_L2 n E S _ (B + 85) (B + 1) (iI (s : Int)) (iI (i : Int)) M = _
    unfold F_Pa_fitsSeen_L2
    rw [hI.i12 hC.1, obs, if_pos (cleT (by omega) (by omega) (by omega))]
    rfl
  | succ r ih =>
    intro i k hr hk
    obtain ⟨k, rfl⟩ : ∃ k', k = k' + 1 := ⟨k - 1, by omega⟩
    have h7 := hN.sf (k := i) (by omega)
    have h8 := hN.st (k := i) (by omega)
    have hb := thV_b (Ls := Ls) hN (s := s) h7.1 h7.2
    have e := s_threadsBy (n := n) (E := E) hS hsh (s := s) (f := (N 7 i).toNat) hs (by omega)
    rw [show (((N 7 i).toNat : Nat) : Int) = N 7 i by omega] at e
    show F_Pa_fitsSeen_L2 n E S _ (B + 85) (B + 1) (iI (s : Int)) (iI (i : Int)) M = some (if thV N Ls s (N 7 i) = N 8 i then fitG N Ls s r (i + 1) else false, M)
    unfold F_Pa_fitsSeen_L2
    rw [hI.i12 hC.1, obs, if_neg (cleF (by omega) (by omega) (by omega)), hI.g7, obs, hI.r7 hC.1 (by omega) (by omega), obs, hS.ck85, obs, Int.toNat_natCast, e, obs, hI.g8, obs, hI.r8 hC.1 (by omega) (by omega), obs, Int.toNat_natCast]
    by_cases c : thV N Ls s (N 7 i) = N 8 i
    · rw [if_pos c, if_pos (show (iI (thV N Ls s (N 7 i)), M).1 = iI (N 8 i) from ceqT c), iL1, iI_add]
      exact ih (i + 1) k (by omega) (by omega)
    · rw [if_neg c, if_neg (show ¬ (iI (thV N Ls s (N 7 i)), M).1 = iI (N 8 i) from ceqF c (by omega) (by omega) (by omega) (by omega))]
theorem s_fits (hS : ShOK S B) (hC : CN S M B (B + 1) N Ls) (hsh : ∀ q, q < 256 → mI M (B + 98) q = iI (shQ N Ls q)) (hn : 600 ≤ n) {s : Nat} (hs : s < 4096) : F_Pa_fitsSeen n E S (B + 85) (B + 1) (iI (s : Int)) M = some (fitV N Ls s, M) := by
  have hns := hC.2.1.ns
  exact fit_c (n := n) (E := E) hS hC hsh hs (N 12 0).toNat 0 n (by omega) (by omega)
theorem fit_m (hS : ShOK S B) (hM : MN M B N Ls) (hsh : ∀ q, q < 256 → mI M (B + 130) q = iI (shQ N Ls q)) (hn : 600 ≤ n) {s : Nat} (hs : s < 4096) : ∀ (r i k : Nat), r + i = (N 12 0).toNat → r + 1 < k → zfix (fun r4 s => F_Mo_canBe_L4 n E S r4 s.1 s.2.1 s.2.2.1 s.2.2.2.1 s.2.2.2.2) k (B + 105, iI (s : Int), iI 1, iI (i : Int), M) = some (fitG N Ls s r i, M) := by
  have hN := hM.2.2.1
  have hns := hN.ns
  intro r
  induction r with
  | zero =>
    intro i k hr hk
    obtain ⟨k, rfl⟩ : ∃ k', k = k' + 1 := ⟨k - 1, by omega⟩
    show F_Mo_canBe_L4 n E S _ (B + 105) (iI (s : Int)) (iI 1) (iI (i : Int)) M = _
    unfold F_Mo_canBe_L4
    rw [hS.g105_3, obs, iL1, hS.r107 (by omega) (by omega), obs, tn1, hM.2.1.ns, if_pos (cleT (by omega) (by omega) (by omega)), zbl1, obs]
    rfl
  | succ r ih =>
    intro i k hr hk
    obtain ⟨k, rfl⟩ : ∃ k', k = k' + 1 := ⟨k - 1, by omega⟩
    have h7 := hN.sf (k := i) (by omega)
    have h8 := hN.st (k := i) (by omega)
    have hb := thV_b (Ls := Ls) hN (s := s) h7.1 h7.2
    have e := s_fallsOn (n := n) (E := E) hS hsh hn (s := s) (f := (N 7 i).toNat) hs (by omega)
    rw [show (((N 7 i).toNat : Nat) : Int) = N 7 i by omega] at e
    show F_Mo_canBe_L4 n E S _ (B + 105) (iI (s : Int)) (iI 1) (iI (i : Int)) M = some (if thV N Ls s (N 7 i) = N 8 i then fitG N Ls s r (i + 1) else false, M)
    unfold F_Mo_canBe_L4 F_Mo_canBe_b55
    rw [hS.g105_3, obs, iL1, hS.r107 (by omega) (by omega), obs, tn1, hM.2.1.ns, if_neg (cleF (by omega) (by omega) (by omega)), iL0, if_neg (ceqF (by omega) (by omega) (by omega) (by omega) (by omega)), show (65 : Int32) = iI 65 by decide, iL2, iI_mul, iI_add, hS.r107 (by omega) (by omega), obs, hM.2.1.sf (by omega) (by omega), Int.toNat_natCast, e, obs, iI_add, hS.r107 (by omega) (by omega), obs, hM.2.1.st (by omega) (by omega), Int.toNat_natCast]
    by_cases c : thV N Ls s (N 7 i) = N 8 i
    · rw [if_pos c, if_pos (show (iI (thV N Ls s (N 7 i)), M).1 = iI (N 8 i) from ceqT c), iI_add]
      exact ih (i + 1) k (by omega) (by omega)
    · rw [if_neg c, if_neg (show ¬ (iI (thV N Ls s (N 7 i)), M).1 = iI (N 8 i) from ceqF c (by omega) (by omega) (by omega) (by omega)), iI_add]
      obtain ⟨k, rfl⟩ : ∃ k', k = k' + 1 := ⟨k - 1, by omega⟩
      show F_Mo_canBe_L4 n E S _ (B + 105) (iI (s : Int)) (iI 0) (iI ((i : Int) + 1)) M = _
      unfold F_Mo_canBe_L4
      rw [hS.g105_3, obs, iL1, hS.r107 (by omega) (by omega), obs, tn1, hM.2.1.ns, zbl0, obs, iL0, if_pos rfl]
      by_cases d : N 12 0 ≤ (i : Int) + 1
      · rw [if_pos (cleT (by omega) (by omega) (by omega))]
      · rw [if_neg (cleF (by omega) (by omega) (by omega))]
theorem s_canBe (hS : ShOK S B) (hM : MN M B N Ls) (hsh : ∀ q, q < 256 → mI M (B + 130) q = iI (shQ N Ls q)) (hn : 600 ≤ n) {s : Nat} (hs : s < 4096) : F_Mo_canBe n E S (B + 105) (iI (s : Int)) M = some (fitV N Ls s, M) := by
  have hns := hM.2.2.1.ns
  exact fit_m (n := n) (E := E) hS hM hsh hn hs (N 12 0).toNat 0 n (by omega) (by omega)
/-! settings -/
def decV (s : Nat) : Int := ((s / 512 % 8 : Nat) : Int) * 1000 + ((s / 64 % 8 : Nat) : Int) * 100 + ((s / 8 % 8 : Nat) : Int) * 10 + ((s % 8 : Nat) : Int)
def cntV (N : Nt) (Ls : Nat → Lw) : Nat → Int
  | 0 => 0
  | s + 1 => if fitV N Ls s = true then cntV N Ls s + 1 else cntV N Ls s
def itsV (N : Nt) (Ls : Nat → Lw) (x : Int) : Nat → Int
  | 0 => -1
  | s + 1 => if fitV N Ls s = true ∧ cntV N Ls s = x then decV s else itsV N Ls x s
theorem cnt_b : ∀ s, 0 ≤ cntV N Ls s ∧ cntV N Ls s ≤ s := by
  intro s
  induction s with
  | zero => exact ⟨Int.le_refl 0, Int.le_refl 0⟩
  | succ s ih =>
    show 0 ≤ (if fitV N Ls s = true then cntV N Ls s + 1 else cntV N Ls s) ∧ (if fitV N Ls s = true then cntV N Ls s + 1 else cntV N Ls s) ≤ ((s + 1 : Nat) : Int)
    split <;> omega
theorem dec_b (s : Nat) : 0 ≤ decV s ∧ decV s ≤ 7777 := by unfold decV; omega
theorem its_b {x : Int} : ∀ s, -1 ≤ itsV N Ls x s ∧ itsV N Ls x s ≤ 7777 := by
  intro s
  induction s with
  | zero => exact ⟨Int.le_refl (-1), by show (-1 : Int) ≤ 7777; decide⟩
  | succ s ih =>
    have := dec_b s
    show -1 ≤ (if fitV N Ls s = true ∧ cntV N Ls s = x then decV s else itsV N Ls x s) ∧ (if fitV N Ls s = true ∧ cntV N Ls s = x then decV s else itsV N Ls x s) ≤ 7777
    split <;> omega
theorem its_neg {x : Int} (hx : x < 0) : ∀ s, itsV N Ls x s = -1 := by
  intro s
  induction s with
  | zero => rfl
  | succ s ih =>
    have := cnt_b (N := N) (Ls := Ls) s
    show (if fitV N Ls s = true ∧ cntV N Ls s = x then decV s else itsV N Ls x s) = -1
    rw [if_neg (fun q => by omega), ih]
theorem its_stay {x : Int} {s : Nat} (h : fitV N Ls s = true ∧ cntV N Ls s = x) : ∀ d, itsV N Ls x (s + 1 + d) = decV s ∧ x < cntV N Ls (s + 1 + d) := by
  intro d
  induction d with
  | zero =>
    refine ⟨if_pos h, ?_⟩
    show x < (if fitV N Ls s = true then cntV N Ls s + 1 else cntV N Ls s)
    rw [if_pos h.1]; omega
  | succ d ih =>
    refine ⟨?_, ?_⟩
    · show (if fitV N Ls (s + 1 + d) = true ∧ cntV N Ls (s + 1 + d) = x then decV (s + 1 + d) else itsV N Ls x (s + 1 + d)) = _
      rw [if_neg (fun q => by omega)]; exact ih.1
    · show x < (if fitV N Ls (s + 1 + d) = true then cntV N Ls (s + 1 + d) + 1 else cntV N Ls (s + 1 + d))
      split <;> omega
theorem s_decimal {s : Nat} (hs : s < 4096) : F_Pa_asDecimal n E S (iI (s : Int)) M = some (iI (decV s), M) := by
  unfold F_Pa_asDecimal
  rw [iL9, iL31, shr9 (by omega) (by omega), iL7, xand7, iL6, shr6 (by omega) (by omega), xand7, iL3, shr3 (by omega) (by omega), xand7, xand7, iL1000, iL100, iL10, iI_mul, iI_mul, iI_mul, iI_add, iI_add, iI_add]
  unfold decV
  congr 3
theorem s_inDigits {s : Nat} (hs : s < 4096) : F_Mo_inDigits n E S (iI (s : Int)) M = some (iI (decV s), M) := by
  have t0 := s_turnOf (n := n) (E := E) (S := S) (M := M) (r := 0) hs (by decide)
  have t1 := s_turnOf (n := n) (E := E) (S := S) (M := M) (r := 1) hs (by decide)
  have t2 := s_turnOf (n := n) (E := E) (S := S) (M := M) (r := 2) hs (by decide)
  have t3 := s_turnOf (n := n) (E := E) (S := S) (M := M) (r := 3) hs (by decide)
  unfold F_Mo_inDigits
  rw [iL0, show iI 0 = iI ((0 : Nat) : Int) from rfl, t0, obs, iL1, show iI 1 = iI ((1 : Nat) : Int) from rfl, t1, obs, iL2, show iI 2 = iI ((2 : Nat) : Int) from rfl, t2, obs, iL3, show iI 3 = iI ((3 : Nat) : Int) from rfl, t3, obs, iL1000, iL100, iL10, iI_mul, iI_mul, iI_mul, iI_add, iI_add, iI_add]
  have e : 1000 * (tO s 0 : Int) + 100 * (tO s 1 : Int) + 10 * (tO s 2 : Int) + (tO s 3 : Int) = decV s := by
    show 1000 * ((s / 512 % 8 : Nat) : Int) + 100 * ((s / 64 % 8 : Nat) : Int) + 10 * ((s / 8 % 8 : Nat) : Int) + ((s % 8 : Nat) : Int) = _
    unfold decV; omega
  rw [e]
theorem c_settings (h : Inv S M B) (hn : 100000 ≤ n) {x : Int} (hx : zR x) : Ag1 S B M (fun M => F_NC_settings n E S (B + 0) (iI x) M) (fun M => F_Mo_settings n E S (B + 105) (iI x) M) := by
  have hS := h.1
  have hx1 := hx.1
  have hx2 := hx.2
  refine Ag1.qr h (fun N Ls => iI (if x = -1 then cntV N Ls 4096 else itsV N Ls x 4096)) (fun N Ls hC hh => ?_) (fun M N Ls hM hh => ?_)
  · show ∃ M', F_NC_settings n E S (B + 0) (iI x) M = _ ∧ _
    unfold F_NC_settings
    by_cases c : -1 ≤ x
    · obtain ⟨M1, e1, hsh, hA1⟩ := s_shares (n := n) (E := E) hS hC (by omega)
      have hC1 := hC.cq hA1
      rw [iLm1, if_pos (cleT (by omega) (by omega) (by omega)), hS.g0_12, obs, hS.g0_0, obs, hS.ck85, obs, be_]
      unfold F_Pa_settingAt F_Pa_settingAt_b10
      rw [hS.ck85, obs, e1, obs]
      refine ⟨M1, ?_, hA1⟩
      have loop : ∀ (r s k : Nat), r + s = 4096 → r < k → zfix (fun r10 s => F_Pa_settingAt_L10 n E S r10 s.1 s.2.1 s.2.2.1 s.2.2.2.1 s.2.2.2.2.1 s.2.2.2.2.2) k (B + 85, B + 1, iI x, iI (cntV N Ls s), iI (s : Int), M1) = some (iI (if x = -1 then cntV N Ls 4096 else itsV N Ls x 4096), M1) ∨ ∃ s', s' < s ∧ fitV N Ls s' = true ∧ cntV N Ls s' = x := by
        intro r
        induction r with
        | zero =>
          intro s k hr hk
          obtain ⟨k, rfl⟩ : ∃ k', k = k' + 1 := ⟨k - 1, by omega⟩
          by_cases q : ∃ s', s' < s ∧ fitV N Ls s' = true ∧ cntV N Ls s' = x
          · exact Or.inr q
          · left
            have hs : s = 4096 := by omega
            subst hs
            show F_Pa_settingAt_L10 n E S _ (B + 85) (B + 1) (iI x) (iI (cntV N Ls 4096)) (iI ((4096 : Nat) : Int)) M1 = _
            unfold F_Pa_settingAt_L10
            rw [iL4096, if_pos (cleT (by omega) (by omega) (by omega)), iL1, iI_neg]
            by_cases d : x = -1
            · rw [if_pos (ceqT d), if_pos d]
            · rw [if_neg (ceqF d (by omega) (by omega) (by omega) (by omega)), if_neg d]
              have hno : ∀ s, s ≤ 4096 → itsV N Ls x s = -1 := by
                intro s
                induction s with
                | zero => intro _; rfl
                | succ s ih =>
                  intro hs
                  show (if fitV N Ls s = true ∧ cntV N Ls s = x then decV s else itsV N Ls x s) = -1
                  rw [if_neg (fun z => q ⟨s, by omega, z⟩), ih (by omega)]
              rw [hno 4096 (by omega)]
        | succ r ih =>
          intro s k hr hk
          obtain ⟨k, rfl⟩ : ∃ k', k = k' + 1 := ⟨k - 1, by omega⟩
          by_cases q : ∃ s', s' < s ∧ fitV N Ls s' = true ∧ cntV N Ls s' = x
          · exact Or.inr q
          · left
            have hcb := cnt_b (N := N) (Ls := Ls) s
            show F_Pa_settingAt_L10 n E S _ (B + 85) (B + 1) (iI x) (iI (cntV N Ls s)) (iI (s : Int)) M1 = _
            unfold F_Pa_settingAt_L10 F_Pa_settingAt_b42
            rw [iL4096, if_neg (cleF (by omega) (by omega) (by omega)), hS.ck85, obs, s_fits hS hC1 hsh (by omega) (by omega), obs, iL1, iI_add, iI_add, s_decimal (by omega), obs]
            have ih' := ih (s + 1) k (by omega) (by omega)
            by_cases d : fitV N Ls s = true
            · rw [if_pos (show (fitV N Ls s, M1).1 = true from d)]
              by_cases d2 : cntV N Ls s = x
              · rw [if_pos (ceqT d2)]
                have st := its_stay ⟨d, d2⟩ (4095 - s)
                rw [show s + 1 + (4095 - s) = 4096 by omega] at st
                rw [if_neg (show ¬ x = -1 by omega), st.1]
              · rw [if_neg (ceqF d2 (by omega) (by omega) (by omega) (by omega))]
                have ec : cntV N Ls (s + 1) = cntV N Ls s + 1 := if_pos d
                rw [ec] at ih'
                rcases ih' with ih' | ⟨s', h1, h2⟩
                · exact ih'
                · exfalso
                  by_cases e : s' = s
                  · rw [e] at h2; exact d2 h2.2
                  · exact q ⟨s', by omega, h2⟩
            · rw [if_neg (show ¬ (fitV N Ls s, M1).1 = true from d)]
              have ec : cntV N Ls (s + 1) = cntV N Ls s := if_neg d
              rw [ec] at ih'
              rcases ih' with ih' | ⟨s', h1, h2⟩
              · exact ih'
              · exfalso
                by_cases e : s' = s
                · rw [e] at h2; exact d h2.1
                · exact q ⟨s', by omega, h2⟩
      rcases loop 4096 0 n (by omega) (by omega) with e | ⟨s', h1, _⟩
      · exact e
      · omega
    · rw [iLm1, if_neg (cleF (by omega) (by omega) (by omega)), if_neg (show ¬ x = -1 by omega), its_neg (by omega)]
      exact ⟨M, rfl, zAg.rfl'⟩
  · show ∃ M', F_Mo_settings n E S (B + 105) (iI x) M = _ ∧ _
    have hM0 := hM.mq (mQ_0 (M := M))
    obtain ⟨M1, e1, hsh, hA1⟩ := s_layFalls (n := n) (E := E) hS hM0 (by omega)
    have hM1 := hM0.fa hA1
    unfold F_Mo_settings F_Mo_settings_b16
    rw [iL0, hS.p105, obs, hS.ck105, obs, e1, obs]
    refine ⟨M1, ?_, mP_0.trans (mP.q (fa_q hA1))⟩
    obtain ⟨m, e⟩ := zfix_for (F := fun r16 s => F_Mo_settings_L16 n E S r16 s.1 s.2.1 s.2.2.1 s.2.2.2.1 s.2.2.2.2.1 s.2.2.2.2.2) (fun s => (B + 105, iI x, iI (cntV N Ls s), iI (itsV N Ls x s), iI (s : Int), M1)) 4096 (fun s hs rec => by
      have hcb := cnt_b (N := N) (Ls := Ls) s
      show F_Mo_settings_L16 n E S rec (B + 105) (iI x) (iI (cntV N Ls s)) (iI (itsV N Ls x s)) (iI (s : Int)) M1 = rec (B + 105, iI x, iI (if fitV N Ls s = true then cntV N Ls s + 1 else cntV N Ls s), iI (if fitV N Ls s = true ∧ cntV N Ls s = x then decV s else itsV N Ls x s), iI ((s + 1 : Nat) : Int), M1)
      unfold F_Mo_settings_L16 F_Mo_settings_b47 F_Mo_settings_b51
      rw [iL4096, if_neg (cleF (by omega) (by omega) (by omega)), hS.ck105, obs, s_canBe hS hM1 hsh (by omega) hs, obs, iL1, iI_add, iI_add, s_inDigits hs, obs]
      by_cases d : fitV N Ls s = true
      · rw [if_pos (show (fitV N Ls s, M1).1 = true from d), if_pos d]
        by_cases d2 : cntV N Ls s = x
        · rw [if_pos (ceqT d2), if_pos ⟨d, d2⟩]; rfl
        · rw [if_neg (ceqF d2 (by omega) (by omega) (by omega) (by omega)), if_neg (fun z => d2 z.2)]; rfl
      · rw [if_neg (show ¬ (fitV N Ls s, M1).1 = true from d), if_neg d, if_neg (fun z => d z.1)]; rfl) (k := n) (by omega)
    refine e.trans ?_
    show F_Mo_settings_L16 n E S _ (B + 105) (iI x) (iI (cntV N Ls 4096)) (iI (itsV N Ls x 4096)) (iI ((4096 : Nat) : Int)) M1 = _
    unfold F_Mo_settings_L16
    rw [iL4096, if_pos (cleT (by omega) (by omega) (by omega)), iL1, iI_neg]
    by_cases d : x = -1
    · rw [if_pos (ceqT d), if_pos d]
    · rw [if_neg (ceqF d (by omega) (by omega) (by omega) (by omega)), if_neg d]
/-! turned -/
def stpV (N : Nt) (s : Nat) : Int := zsum (fun r => min (((tO s r : Int) - N 2 r) % 8) (8 - ((tO s r : Int) - N 2 r) % 8)) 4
theorem stp_b (N : Nt) (s : Nat) : ∀ i : Nat, 0 ≤ zsum (fun r => min (((tO s r : Int) - N 2 r) % 8) (8 - ((tO s r : Int) - N 2 r) % 8)) i ∧ zsum (fun r => min (((tO s r : Int) - N 2 r) % 8) (8 - ((tO s r : Int) - N 2 r) % 8)) i ≤ 4 * i := by
  intro i
  induction i with
  | zero => exact ⟨Int.le_refl 0, Int.le_refl 0⟩
  | succ i ih => rw [zsum_s]; omega
theorem s_steps (hS : ShOK S B) (hC : CN S M B (B + 1) N Ls) (hn : 600 ≤ n) {s : Nat} (hs : s < 4096) : F_Pa_stepsTo n E S (B + 1) (iI (s : Int)) M = some (iI (stpV N s), M) := by
  have hN := hC.2.1
  have hI := nA1.ni hS
  unfold F_Pa_stepsTo F_Pa_stepsTo_b4
  obtain ⟨m, e⟩ := zfix_for (F := fun r4 s => F_Pa_stepsTo_L4 n E S r4 s.1 s.2.1 s.2.2.1 s.2.2.2.1 s.2.2.2.2) (fun i => (B + 1, iI (s : Int), iI (zsum (fun r => min (((tO s r : Int) - N 2 r) % 8) (8 - ((tO s r : Int) - N 2 r) % 8)) i), iI (i : Int), M)) 4 (fun i hi rec => by
    have ht := hN.turn hi
    have em : ((s : Int) / 2 ^ (3 * (3 - (i : Int))).toNat - N 2 i) % 8 = ((tO s i : Int) - N 2 i) % 8 := by
      unfold tO
      rcases (show i = 0 ∨ i = 1 ∨ i = 2 ∨ i = 3 by omega) with rfl | rfl | rfl | rfl
      · show ((s : Int) / 512 - N 2 0) % 8 = (((s / 512 % 8 : Nat) : Int) - N 2 0) % 8; omega
      · show ((s : Int) / 64 - N 2 1) % 8 = (((s / 64 % 8 : Nat) : Int) - N 2 1) % 8; omega
      · show ((s : Int) / 8 - N 2 2) % 8 = (((s / 8 % 8 : Nat) : Int) - N 2 2) % 8; omega
      · show ((s : Int) / 1 - N 2 3) % 8 = (((s % 8 : Nat) : Int) - N 2 3) % 8; omega
    have eb : 0 ≤ (s : Int) / 2 ^ (3 * (3 - (i : Int))).toNat ∧ (s : Int) / 2 ^ (3 * (3 - (i : Int))).toNat < 4096 := by
      rcases (show i = 0 ∨ i = 1 ∨ i = 2 ∨ i = 3 by omega) with rfl | rfl | rfl | rfl
      · show 0 ≤ (s : Int) / 512 ∧ (s : Int) / 512 < 4096; omega
      · show 0 ≤ (s : Int) / 64 ∧ (s : Int) / 64 < 4096; omega
      · show 0 ≤ (s : Int) / 8 ∧ (s : Int) / 8 < 4096; omega
      · show 0 ≤ (s : Int) / 1 ∧ (s : Int) / 1 < 4096; omega
    show F_Pa_stepsTo_L4 n E S rec (B + 1) (iI (s : Int)) (iI (zsum (fun r => min (((tO s r : Int) - N 2 r) % 8) (8 - ((tO s r : Int) - N 2 r) % 8)) i)) (iI (i : Int)) M = _
    unfold F_Pa_stepsTo_L4
    rw [iL4, if_neg (cleF (by omega) (by omega) (by omega)), hI.g2, obs, hI.r2 hC.1 (by omega) (by omega), obs, iL3, iI_sub, iI_mul, iL31, xshr (by omega) (by omega) (by omega) (by omega), iI_sub, Int.toNat_natCast, iL8, fmod8 (by omega) (by omega), obs, em, iI_sub, s_minI (zR_of (by omega) (by omega)) (zR_of (by omega) (by omega)), obs, iI_add, iL1, iI_add]
    rfl) (k := n) (by omega)
  refine e.trans ?_
  show F_Pa_stepsTo_L4 n E S _ (B + 1) (iI (s : Int)) (iI (stpV N s)) (iI ((4 : Nat) : Int)) M = _
  unfold F_Pa_stepsTo_L4
  rw [if_pos (by decide)]
theorem s_msteps (hS : ShOK S B) (hM : MN M B N Ls) (hn : 600 ≤ n) {s : Nat} (hs : s < 4096) : F_Mo_stepsTo n E S (B + 105) (iI (s : Int)) M = some (iI (stpV N s), M) := by
  have hN := hM.2.2.1
  unfold F_Mo_stepsTo F_Mo_stepsTo_b4
  obtain ⟨m, e⟩ := zfix_for (F := fun r4 s => F_Mo_stepsTo_L4 n E S r4 s.1 s.2.1 s.2.2.1 s.2.2.2.1 s.2.2.2.2) (fun i => (B + 105, iI (s : Int), iI (zsum (fun r => min (((tO s r : Int) - N 2 r) % 8) (8 - ((tO s r : Int) - N 2 r) % 8)) i), iI (i : Int), M)) 4 (fun i hi rec => by
    have ht := hN.turn hi
    have htb := tO_b (s := s) (r := i)
    have em : ((tO s i : Int) + 8 - N 2 i) % 8 = ((tO s i : Int) - N 2 i) % 8 := by omega
    show F_Mo_stepsTo_L4 n E S rec (B + 105) (iI (s : Int)) (iI (zsum (fun r => min (((tO s r : Int) - N 2 r) % 8) (8 - ((tO s r : Int) - N 2 r) % 8)) i)) (iI (i : Int)) M = _
    unfold F_Mo_stepsTo_L4 F_Mo_stepsTo_b53
    rw [iL4, if_neg (cleF (by omega) (by omega) (by omega)), s_turnOf hs hi, obs, hS.g105_3, obs, iL8, iI_add, hS.r107 (by omega) (by omega), obs, hM.2.1.turn (by omega) (by omega), Int.toNat_natCast, iI_add, iI_sub, e8 (by omega) (by omega), obs, em, iI_sub, iL1, iI_add]
    by_cases c : 8 - ((tO s i : Int) - N 2 i) % 8 ≤ ((tO s i : Int) - N 2 i) % 8
    · rw [if_pos (cleT (by omega) (by omega) (by omega)), iI_add]
      show rec (B + 105, iI (s : Int), iI _, iI ((i : Int) + 1), M) = rec (B + 105, iI (s : Int), iI (zsum (fun r => min (((tO s r : Int) - N 2 r) % 8) (8 - ((tO s r : Int) - N 2 r) % 8)) i + min (((tO s i : Int) - N 2 i) % 8) (8 - ((tO s i : Int) - N 2 i) % 8)), iI ((i : Int) + 1), M)
      rw [Int.min_eq_right c]
    · rw [if_neg (cleF (by omega) (by omega) (by omega)), iI_add, iI_add]
      show rec (B + 105, iI (s : Int), iI _, iI ((i : Int) + 1), M) = rec (B + 105, iI (s : Int), iI (zsum (fun r => min (((tO s r : Int) - N 2 r) % 8) (8 - ((tO s r : Int) - N 2 r) % 8)) i + min (((tO s i : Int) - N 2 i) % 8) (8 - ((tO s i : Int) - N 2 i) % 8)), iI ((i : Int) + 1), M)
      rw [Int.min_eq_left (by omega)]) (k := n) (by omega)
  refine e.trans ?_
  show F_Mo_stepsTo_L4 n E S _ (B + 105) (iI (s : Int)) (iI (stpV N s)) (iI ((4 : Nat) : Int)) M = _
  unfold F_Mo_stepsTo_L4
  rw [if_pos (by decide)]
/-- the rest of what is wanted is given -/
def wanG (N : Nt) (Ls : Nat → Lw) (s : Nat) : Nat → Nat → Bool
  | 0, _ => true
  | r + 1, i => if N 6 i = -1 ∨ thV N Ls s (i : Int) = N 6 i then wanG N Ls s r (i + 1) else false
def wanV (N : Nt) (Ls : Nat → Lw) (s : Nat) : Bool := wanG N Ls s 8 0
theorem wan_c (hS : ShOK S B) (hC : CN S M B (B + 1) N Ls) (hsh : ∀ q, q < 256 → mI M (B + 98) q = iI (shQ N Ls q)) {s : Nat} (hs : s < 4096) : ∀ (r i k : Nat), r + i = 8 → r < k → zfix (fun r2 s => F_Pa_givesWanted_L2 n E S r2 s.1 s.2.1 s.2.2.1 s.2.2.2.1 s.2.2.2.2) k (B + 85, B + 1, iI (s : Int), iI (i : Int), M) = some (wanG N Ls s r i, M) := by
  have hN := hC.2.1
  have hI := nA1.ni hS
  intro r
  induction r with
  | zero =>
    intro i k hr hk
    obtain ⟨k, rfl⟩ : ∃ k', k = k' + 1 := ⟨k - 1, by omega⟩
    show F_Pa_givesWanted_L2 n E S _ (B + 85) (B + 1) (iI (s : Int)) (iI (i : Int)) M = _
    unfold F_Pa_givesWanted_L2
    rw [iL8, if_pos (cleT (by omega) (by omega) (by omega))]
    rfl
  | succ r ih =>
    intro i k hr hk
    obtain ⟨k, rfl⟩ : ∃ k', k = k' + 1 := ⟨k - 1, by omega⟩
    have hw := hN.want (k := i) (by omega)
    have hb := thV_b (Ls := Ls) hN (s := s) (f := (i : Int)) (by omega) (by omega)
    have e := s_threadsBy (n := n) (E := E) hS hsh (s := s) (f := i) hs (by omega)
    have ih' := ih (i + 1) k (by omega) (by omega)
    show F_Pa_givesWanted_L2 n E S _ (B + 85) (B + 1) (iI (s : Int)) (iI (i : Int)) M = some (if N 6 i = -1 ∨ thV N Ls s (i : Int) = N 6 i then wanG N Ls s r (i + 1) else false, M)
    unfold F_Pa_givesWanted_L2 F_Pa_givesWanted_b35
    rw [iL8, if_neg (cleF (by omega) (by omega) (by omega)), hI.g6, obs, hI.r6 hC.1 (by omega) (by omega), obs, Int.toNat_natCast, hS.ck85, obs, e, obs, iL1, iI_neg, iI_add]
    by_cases c : N 6 i = -1
    · rw [if_pos (Or.inl c), if_pos (ceqT c)]; exact ih'
    · rw [if_neg (ceqF c (by omega) (by omega) (by omega) (by omega))]
      by_cases d : thV N Ls s (i : Int) = N 6 i
      · rw [if_pos (Or.inr d), hI.r6 hC.1 (by omega) (by omega), obs, Int.toNat_natCast, if_pos (show (iI (thV N Ls s (i : Int)), M).1 = iI (N 6 i) from ceqT d)]; exact ih'
      · rw [if_neg (show ¬ (N 6 i = -1 ∨ thV N Ls s (i : Int) = N 6 i) by omega), hI.r6 hC.1 (by omega) (by omega), obs, Int.toNat_natCast, if_neg (show ¬ (iI (thV N Ls s (i : Int)), M).1 = iI (N 6 i) from ceqF d (by omega) (by omega) (by omega) (by omega))]
theorem wan_m (hS : ShOK S B) (hM : MN M B N Ls) (hsh : ∀ q, q < 256 → mI M (B + 130) q = iI (shQ N Ls q)) (hn : 600 ≤ n) {s : Nat} (hs : s < 4096) : ∀ (r i k : Nat), r + i = 8 → r + 1 < k → zfix (fun r4 s => F_Mo_isWanted_L4 n E S r4 s.1 s.2.1 s.2.2.1 s.2.2.2.1 s.2.2.2.2) k (B + 105, iI (s : Int), iI 1, iI (i : Int), M) = some (wanG N Ls s r i, M) := by
  have hN := hM.2.2.1
  intro r
  induction r with
  | zero =>
    intro i k hr hk
    obtain ⟨k, rfl⟩ : ∃ k', k = k' + 1 := ⟨k - 1, by omega⟩
    show F_Mo_isWanted_L4 n E S _ (B + 105) (iI (s : Int)) (iI 1) (iI (i : Int)) M = _
    unfold F_Mo_isWanted_L4
    rw [iL8, if_pos (cleT (by omega) (by omega) (by omega)), zbl1, obs]
    rfl
  | succ r ih =>
    intro i k hr hk
    obtain ⟨k, rfl⟩ : ∃ k', k = k' + 1 := ⟨k - 1, by omega⟩
    have hw := hN.want (k := i) (by omega)
    have hb := thV_b (Ls := Ls) hN (s := s) (f := (i : Int)) (by omega) (by omega)
    have e := s_fallsOn (n := n) (E := E) hS hsh hn (s := s) (f := i) hs (by omega)
    have ih' := ih (i + 1) k (by omega) (by omega)
    show F_Mo_isWanted_L4 n E S _ (B + 105) (iI (s : Int)) (iI 1) (iI (i : Int)) M = some (if N 6 i = -1 ∨ thV N Ls s (i : Int) = N 6 i then wanG N Ls s r (i + 1) else false, M)
    unfold F_Mo_isWanted_L4 F_Mo_isWanted_b45 F_Mo_isWanted_b50
    rw [iL8, if_neg (cleF (by omega) (by omega) (by omega)), iL0, if_neg (ceqF (by omega) (by omega) (by omega) (by omega) (by omega)), hS.g105_3, obs, show (57 : Int32) = iI 57 by decide, iI_add, hS.r107 (by omega) (by omega), obs, hM.2.1.want (by omega) (by omega), Int.toNat_natCast, e, obs, hS.r107 (by omega) (by omega), obs, hM.2.1.want (by omega) (by omega), Int.toNat_natCast, iL1, iI_neg, iI_add]
    by_cases c : N 6 i = -1
    · rw [if_pos (Or.inl c), if_pos (ceqT c)]; exact ih'
    · rw [if_neg (ceqF c (by omega) (by omega) (by omega) (by omega))]
      by_cases d : thV N Ls s (i : Int) = N 6 i
      · rw [if_pos (Or.inr d), if_pos (show (iI (thV N Ls s (i : Int)), M).1 = iI (N 6 i) from ceqT d)]; exact ih'
      · rw [if_neg (show ¬ (N 6 i = -1 ∨ thV N Ls s (i : Int) = N 6 i) by omega), if_neg (show ¬ (iI (thV N Ls s (i : Int)), M).1 = iI (N 6 i) from ceqF d (by omega) (by omega) (by omega) (by omega))]
        obtain ⟨k, rfl⟩ : ∃ k', k = k' + 1 := ⟨k - 1, by omega⟩
        show F_Mo_isWanted_L4 n E S _ (B + 105) (iI (s : Int)) (iI 0) (iI ((i : Int) + 1)) M = _
        unfold F_Mo_isWanted_L4
        rw [zbl0, obs, iL0, if_pos rfl, iL8]
        by_cases d2 : 8 ≤ (i : Int) + 1
        · rw [if_pos (cleT (by omega) (by omega) (by omega))]
        · rw [if_neg (cleF (by omega) (by omega) (by omega))]
/-- the fewest steps (-1: none), the setting -/
def trV (N : Nt) (Ls : Nat → Lw) : Nat → Int × Int
  | 0 => (-1, -1)
  | s + 1 => if ((trV N Ls s).1 = -1 ∨ stpV N s < (trV N Ls s).1) ∧ wanV N Ls s = true then (stpV N s, (s : Int)) else trV N Ls s
theorem tr_b : ∀ s, (-1 ≤ (trV N Ls s).1 ∧ (trV N Ls s).1 ≤ 16) ∧ (-1 ≤ (trV N Ls s).2 ∧ (trV N Ls s).2 < s) ∧ ((trV N Ls s).1 = -1 ↔ (trV N Ls s).2 = -1) := by
  intro s
  induction s with
  | zero => exact ⟨⟨Int.le_refl (-1), show (-1 : Int) ≤ 16 by decide⟩, ⟨Int.le_refl (-1), show (-1 : Int) < ((0 : Nat) : Int) by decide⟩, ⟨fun _ => rfl, fun _ => rfl⟩⟩
  | succ s ih =>
    have hb := stp_b N s 4
    have hb' : 0 ≤ stpV N s ∧ stpV N s ≤ 16 := hb
    by_cases c : ((trV N Ls s).1 = -1 ∨ stpV N s < (trV N Ls s).1) ∧ wanV N Ls s = true
    · have e : trV N Ls (s + 1) = (stpV N s, (s : Int)) := if_pos c
      rw [e]; dsimp only; omega
    · have e : trV N Ls (s + 1) = trV N Ls s := if_neg c
      rw [e]; omega
theorem tr_0 {s : Nat} (h : (trV N Ls s).1 = 0) : ∀ d, trV N Ls (s + d) = trV N Ls s := by
  intro d
  induction d with
  | zero => rfl
  | succ d ih =>
    have hb : 0 ≤ stpV N (s + d) ∧ stpV N (s + d) ≤ 16 := stp_b N (s + d) 4
    show (if ((trV N Ls (s + d)).1 = -1 ∨ stpV N (s + d) < (trV N Ls (s + d)).1) ∧ wanV N Ls (s + d) = true then (stpV N (s + d), ((s + d : Nat) : Int)) else trV N Ls (s + d)) = _
    rw [if_neg (fun q => by rw [ih] at q; omega), ih]
theorem turned_c {K : Nat} (hK : K = 4096) (hS : ShOK S B) (hC : CN S M B (B + 1) N Ls) (hn : 100000 ≤ n) {x : Int} (hx : zR x) : ∃ M', F_NC_turned n E S (B + 0) (iI x) M = some (iI (if -1 ≤ x ∧ x ≤ 3 then (if (trV N Ls K).1 = -1 then -1 else if x = -1 then (trV N Ls K).1 else (tO (trV N Ls K).2.toNat x.toNat : Int)) else -1), M') ∧ zAg (cQ B) M M' := by
  have hx1 := hx.1
  have hx2 := hx.2
  unfold F_NC_turned
  rw [iL1, iI_neg, iL3, s_withinI hx (zR_of (by omega) (by omega)) (zR_of (by omega) (by omega)), obs]
  by_cases c : -1 ≤ x ∧ x ≤ 3
  · obtain ⟨M1, e1, hsh1, hA1⟩ := s_shares (n := n) (E := E) hS hC (by omega)
    have key : ∀ (r s k : Nat) (M2 : zH), r + s = K → r < k → zAg (fun b j => b = B + 85) M1 M2 → mI M2 (B + 85) 8 = iI (trV N Ls s).1 → ((trV N Ls s).1 ≠ -1 → mI M2 (B + 85) 9 = iI (trV N Ls s).2) → ∃ M3, zfix (fun r12 s => F_Pa_findTurns_L12 n E S r12 s.1 s.2.1 s.2.2.1 s.2.2.2) k (B + 85, B + 1, iI (s : Int), M2) = some (decide ((trV N Ls K).1 ≠ -1), M3) ∧ mI M3 (B + 85) 8 = iI (trV N Ls K).1 ∧ ((trV N Ls K).1 ≠ -1 → mI M3 (B + 85) 9 = iI (trV N Ls K).2) ∧ zAg (fun b j => b = B + 85) M1 M3 := by
      have b73 : ∀ M2 : zH, mI M2 (B + 85) 8 = iI (trV N Ls K).1 → F_Pa_findTurns_b73 n E S (B + 85) M2 = some (decide ((trV N Ls K).1 ≠ -1), M2) := fun M2 h8 => by
        have hb := tr_b (N := N) (Ls := Ls) K
        unfold F_Pa_findTurns_b73
        rw [hS.i85, obs, h8, iL1, iI_neg]
        by_cases d : (trV N Ls K).1 = -1
        · rw [if_pos (ceqT d), decide_eq_false (fun q => q d)]
        · rw [if_neg (ceqF d (by omega) (by omega) (by omega) (by omega)), decide_eq_true d]
      intro r
      induction r with
      | zero =>
        intro s k M2 hr hk hA2 h8 h9
        obtain ⟨k, rfl⟩ : ∃ k', k = k' + 1 := ⟨k - 1, by omega⟩
        have hs : s = K := by omega
        rw [hs] at h8 h9 ⊢
        refine ⟨M2, ?_, h8, h9, hA2⟩
        show F_Pa_findTurns_L12 n E S _ (B + 85) (B + 1) (iI (K : Int)) M2 = _
        unfold F_Pa_findTurns_L12
        rw [iL4096, if_pos (cleT (by omega) (by omega) (by omega))]; exact b73 M2 h8
      | succ r ih =>
        intro s k M2 hr hk hA2 h8 h9
        obtain ⟨k, rfl⟩ : ∃ k', k = k' + 1 := ⟨k - 1, by omega⟩
        have hb := tr_b (N := N) (Ls := Ls) s
        have hst : 0 ≤ stpV N s ∧ stpV N s ≤ 16 := stp_b N s 4
        show ∃ M3, F_Pa_findTurns_L12 n E S _ (B + 85) (B + 1) (iI (s : Int)) M2 = _ ∧ _
        unfold F_Pa_findTurns_L12 F_Pa_findTurns_b57 F_Pa_findTurns_b67
        rw [iL4096, if_neg (cleF (by omega) (by omega) (by omega)), hS.i85, obs, h8, iL0]
        by_cases d : (trV N Ls s).1 = 0
        · have st := tr_0 d (K - s)
          rw [show s + (K - s) = K by omega] at st
          rw [if_pos (ceqT d), b73 M2 (by rw [st]; exact h8), st]
          exact ⟨M2, rfl, h8, h9, hA2⟩
        · have hA2' : zAg (cQ B) M1 M2 := hA2.mono (fun b j q => by unfold cQ; omega)
          have hC2 := hC.cq (hA1.trans hA2')
          have hsh2 : ∀ q, q < 256 → mI M2 (B + 98) q = iI (shQ N Ls q) := fun q hq => by rw [(hA2 _ _ (by omega)).1]; exact hsh1 q hq
          have ew : F_Pa_givesWanted n E S (B + 85) (B + 1) (iI (s : Int)) M2 = some (wanV N Ls s, M2) := wan_c (n := n) (E := E) hS hC2 hsh2 (by omega) 8 0 n (by omega) (by omega)
          rw [if_neg (ceqF d (by omega) (by omega) (by omega) (by omega)), ew, obs]
          by_cases d1 : wanV N Ls s = true
          · rw [if_pos (show (wanV N Ls s, M2).1 = true from d1), s_steps hS hC2 (by omega) (by omega), obs, hS.i85, obs, h8, iL1, iI_neg, iI_add]
            have hA3 : zAg (fun b j => b = B + 85) M1 (setI (setI M2 (B + 85) 8 (iI (stpV N s))) (B + 85) 9 (iI (s : Int))) := (hA2.setI rfl).setI rfl
            have up : ((trV N Ls s).1 = -1 ∨ stpV N s < (trV N Ls s).1) → _ := fun q => ih (s + 1) k (setI (setI M2 (B + 85) 8 (iI (stpV N s))) (B + 85) 9 (iI (s : Int))) (by omega) (by omega) hA3 (by
              have e : trV N Ls (s + 1) = (stpV N s, (s : Int)) := if_pos ⟨q, d1⟩
              rw [e, mI_i (by decide), mI_s]) (fun _ => by
              have e : trV N Ls (s + 1) = (stpV N s, (s : Int)) := if_pos ⟨q, d1⟩
              rw [e, mI_s])
            by_cases d2 : (trV N Ls s).1 = -1
            · rw [if_pos (ceqT d2), hS.p85, obs, hS.p85, obs]; exact up (Or.inl d2)
            · rw [if_neg (ceqF d2 (by omega) (by omega) (by omega) (by omega)), obs]
              by_cases d3 : (trV N Ls s).1 ≤ stpV N s
              · have e : trV N Ls (s + 1) = trV N Ls s := if_neg (fun q => by omega)
                rw [if_pos (cleT (by omega) (by omega) (by omega))]
                exact ih (s + 1) k M2 (by omega) (by omega) hA2 (by rw [e]; exact h8) (by rw [e]; exact h9)
              · rw [if_neg (cleF (by omega) (by omega) (by omega)), hS.p85, obs, hS.p85, obs]; exact up (Or.inr (by omega))
          · have e : trV N Ls (s + 1) = trV N Ls s := if_neg (fun q => d1 q.2)
            rw [if_neg (show ¬ (wanV N Ls s, M2).1 = true from d1), iL1, iI_add]
            exact ih (s + 1) k M2 (by omega) (by omega) hA2 (by rw [e]; exact h8) (by rw [e]; exact h9)
    obtain ⟨M3, e3, h8, h9, hA3⟩ := key K 0 n (setI M1 (B + 85) 8 (iI (-1))) (by omega) (by omega) (zAg.rfl'.setI rfl) (by rw [mI_s]; rfl) (fun q => absurd rfl q)
    have hb := tr_b (N := N) (Ls := Ls) K
    rw [if_pos (decide_eq_true c), if_pos c, hS.g0_12, obs, hS.g0_0, obs, hS.ck85, obs]
    unfold F_Pa_findTurns F_Pa_findTurns_b12
    have e3' : zfix (fun r12 s => F_Pa_findTurns_L12 n E S r12 s.1 s.2.1 s.2.2.1 s.2.2.2) n (B + 85, B + 1, 0, setI M1 (B + 85) 8 (iI (-1))) = some (decide ((trV N Ls K).1 ≠ -1), M3) := e3
    rw [hS.ck85, obs, e1, obs, iL1, iI_neg, hS.p85, obs, e3', obs]
    have hAq : zAg (cQ B) M M3 := hA1.trans (hA3.mono (fun b j q => by unfold cQ; omega))
    clear key e3 e3'
    generalize trV N Ls K = P at *
    by_cases d : P.1 = -1
    · rw [if_neg (show ¬ (decide (P.1 ≠ -1), M3).1 = true from fun q => (of_decide_eq_true q) d), if_pos d]; exact ⟨M3, rfl, hAq⟩
    · rw [if_pos (show (decide (P.1 ≠ -1), M3).1 = true from decide_eq_true d), if_neg d]
      by_cases d2 : x = -1
      · rw [if_pos (ceqT d2), if_pos d2, hS.i85, obs, h8]; exact ⟨M3, rfl, hAq⟩
      · rw [if_neg (ceqF d2 (by omega) (by omega) (by omega) (by omega)), if_neg d2]
        unfold F_Pa_digitOfChoice
        rw [iL3, iI_sub, iL0, iL9, s_withinI (zR_of (by omega) (by omega)) (zR_of (by omega) (by omega)) (zR_of (by omega) (by omega)), obs, if_pos (decide_eq_true (show 0 ≤ 3 - x ∧ 3 - x ≤ 9 by omega)), hS.i85, obs, h9 d, iI_mul, iL31, xshr (by omega) (by omega) (by omega) (by omega), iL7, xand7, obs]
        refine ⟨M3, ?_, hAq⟩
        have ed : P.2 / 2 ^ (3 * (3 - x)).toNat % 8 = (tO P.2.toNat x.toNat : Int) := by
          unfold tO
          rcases (show x = 0 ∨ x = 1 ∨ x = 2 ∨ x = 3 by omega) with rfl | rfl | rfl | rfl
          · show P.2 / 512 % 8 = ((P.2.toNat / 512 % 8 : Nat) : Int); omega
          · show P.2 / 64 % 8 = ((P.2.toNat / 64 % 8 : Nat) : Int); omega
          · show P.2 / 8 % 8 = ((P.2.toNat / 8 % 8 : Nat) : Int); omega
          · show P.2 / 1 % 8 = ((P.2.toNat % 8 : Nat) : Int); omega
        rw [ed]
  · rw [if_neg (fun q => c (of_decide_eq_true q)), if_neg c]; exact ⟨M, rfl, zAg.rfl'⟩
theorem turned_m {K : Nat} (hK : K = 4096) (hS : ShOK S B) (hM : MN M B N Ls) (hn : 100000 ≤ n) {x : Int} (hx : zR x) : ∃ M', F_Mo_turned n E S (B + 105) (iI x) M = some (iI (if -1 ≤ x ∧ x ≤ 3 then (if (trV N Ls K).1 = -1 then -1 else if x = -1 then (trV N Ls K).1 else (tO (trV N Ls K).2.toNat x.toNat : Int)) else -1), M') ∧ mP B M M' := by
  have hx1 := hx.1
  have hx2 := hx.2
  have hM0 := hM.mq (mQ_0 (M := M))
  have main : -1 ≤ x ∧ x ≤ 3 → ∃ M', F_Mo_turned_b19 n E S (B + 105) (iI x) (setI M (B + 105) 0 (iI 0)) = some (iI (if -1 ≤ x ∧ x ≤ 3 then (if (trV N Ls K).1 = -1 then -1 else if x = -1 then (trV N Ls K).1 else (tO (trV N Ls K).2.toNat x.toNat : Int)) else -1), M') ∧ mP B M M' := fun c => by
    obtain ⟨M1, e1, hsh, hA1⟩ := s_layFalls (n := n) (E := E) hS hM0 (by omega)
    have hM1 := hM0.fa hA1
    unfold F_Mo_turned_b19 F_Mo_turned_b32
    rw [hS.ck105, obs, e1, obs]
    refine ⟨M1, ?_, mP_0.trans (mP.q (fa_q hA1))⟩
    have hb := tr_b (N := N) (Ls := Ls) K
    obtain ⟨m, e⟩ := zfix_for (F := fun r32 s => F_Mo_turned_L32 n E S r32 s.1 s.2.1 s.2.2.1 s.2.2.2.1 s.2.2.2.2.1 s.2.2.2.2.2) (fun s => (B + 105, iI x, iI (if (trV N Ls s).1 = -1 then 100000000 else (trV N Ls s).1), iI (trV N Ls s).2, iI (s : Int), M1)) K (fun s hs rec => by
      have hb := tr_b (N := N) (Ls := Ls) s
      have hst : 0 ≤ stpV N s ∧ stpV N s ≤ 16 := stp_b N s 4
      have ew : F_Mo_isWanted n E S (B + 105) (iI (s : Int)) M1 = some (wanV N Ls s, M1) := wan_m (n := n) (E := E) hS hM1 hsh (by omega) (by omega) 8 0 n (by omega) (by omega)
      have hF : (if (trV N Ls s).1 = -1 then (100000000 : Int) else (trV N Ls s).1) ≤ 100000000 ∧ 0 ≤ (if (trV N Ls s).1 = -1 then (100000000 : Int) else (trV N Ls s).1) ∧ ((if (trV N Ls s).1 = -1 then (100000000 : Int) else (trV N Ls s).1) ≤ stpV N s ↔ ¬ ((trV N Ls s).1 = -1 ∨ stpV N s < (trV N Ls s).1)) := by split <;> omega
      show F_Mo_turned_L32 n E S rec (B + 105) (iI x) (iI (if (trV N Ls s).1 = -1 then 100000000 else (trV N Ls s).1)) (iI (trV N Ls s).2) (iI (s : Int)) M1 = rec (B + 105, iI x, iI (if (trV N Ls (s + 1)).1 = -1 then 100000000 else (trV N Ls (s + 1)).1), iI (trV N Ls (s + 1)).2, iI ((s + 1 : Nat) : Int), M1)
      have z0 : ∀ l c : Int32, F_Mo_turned_b64 n E S rec (B + 105) (iI x) l c (iI (s : Int)) 0 M1 = rec (B + 105, iI x, l, c, iI ((s + 1 : Nat) : Int), M1) := fun l c => by
        unfold F_Mo_turned_b64 F_Mo_turned_b77 F_Mo_turned_b93
        rw [if_pos rfl, if_pos rfl, iL1, iI_add]; rfl
      have z1 : ∀ l c : Int32, F_Mo_turned_b64 n E S rec (B + 105) (iI x) l c (iI (s : Int)) 1 M1 = rec (B + 105, iI x, iI (stpV N s), iI (s : Int), iI ((s + 1 : Nat) : Int), M1) := fun l c => by
        unfold F_Mo_turned_b64 F_Mo_turned_b77 F_Mo_turned_b93
        rw [if_neg (show ¬ (1 : Int32) = 0 by decide), if_neg (show ¬ (1 : Int32) = 0 by decide), hS.ck105, obs, s_msteps hS hM1 (by omega) (by omega), obs, iL1, iI_add]; rfl
      unfold F_Mo_turned_L32 F_Mo_turned_b63
      rw [iL4096, if_neg (cleF (by omega) (by omega) (by omega)), hS.ck105, obs, s_msteps hS hM1 (by omega) (by omega), obs]
      by_cases d : (if (trV N Ls s).1 = -1 then (100000000 : Int) else (trV N Ls s).1) ≤ stpV N s
      · have e : trV N Ls (s + 1) = trV N Ls s := if_neg (fun q => (hF.2.2.mp d) q.1)
        rw [if_pos (cleT (by omega) (by omega) (by omega)), e]; exact z0 _ _
      · rw [if_neg (cleF (by omega) (by omega) (by omega)), ew, obs]
        by_cases d1 : wanV N Ls s = true
        · have e : trV N Ls (s + 1) = (stpV N s, (s : Int)) := if_pos ⟨by
            by_cases z : (trV N Ls s).1 = -1 ∨ stpV N s < (trV N Ls s).1
            · exact z
            · exact absurd (hF.2.2.mpr z) d, d1⟩
          rw [if_pos (show (wanV N Ls s, M1).1 = true from d1), e]
          dsimp only
          rw [if_neg (show ¬ stpV N s = -1 by omega)]; exact z1 _ _
        · have e : trV N Ls (s + 1) = trV N Ls s := if_neg (fun q => d1 q.2)
          rw [if_neg (show ¬ (wanV N Ls s, M1).1 = true from d1), e]; exact z0 _ _) (k := n) (by omega)
    refine e.trans ?_
    show F_Mo_turned_L32 n E S _ (B + 105) (iI x) (iI (if (trV N Ls K).1 = -1 then 100000000 else (trV N Ls K).1)) (iI (trV N Ls K).2) (iI (K : Int)) M1 = _
    unfold F_Mo_turned_L32
    rw [iL4096, if_pos (cleT (by omega) (by omega) (by omega)), iL1, iI_neg, if_pos c]
    by_cases d : (trV N Ls K).1 = -1
    · rw [if_pos (ceqT (hb.2.2.mp d)), if_pos d]
    · rw [if_neg (ceqF (fun q => d (hb.2.2.mpr q)) (by omega) (by omega) (by omega) (by omega)), if_neg d, if_neg d]
      by_cases d2 : x = -1
      · rw [if_pos (ceqT d2), if_pos d2]
      · have et := s_turnOf (n := n) (E := E) (S := S) (M := M1) (s := (trV N Ls K).2.toNat) (r := x.toNat) (by omega) (by omega)
        have h2 : 0 ≤ (trV N Ls K).2 := by
          have : (trV N Ls K).2 ≠ -1 := fun q => d (hb.2.2.mpr q)
          omega
        rw [show (((trV N Ls K).2.toNat : Nat) : Int) = (trV N Ls K).2 by omega, show ((x.toNat : Nat) : Int) = x by omega] at et
        rw [if_neg (ceqF d2 (by omega) (by omega) (by omega) (by omega)), if_neg d2, et, obs]
  unfold F_Mo_turned
  rw [iL0, hS.p105, obs]
  by_cases c : x = -1
  · rw [if_pos (show iI x = -1 by rw [c]; rfl)]; exact main (by omega)
  · rw [if_neg (show ¬ iI x = -1 from ceqF (y := -1) c (by omega) (by omega) (by omega) (by omega)), s_mRing hx, obs]
    by_cases d : 0 ≤ x ∧ x ≤ 3
    · rw [if_pos (decide_eq_true d)]; exact main (by omega)
    · rw [if_neg (fun q => d (of_decide_eq_true q)), if_neg (show ¬ (-1 ≤ x ∧ x ≤ 3) by omega)]; exact ⟨_, rfl, mP_0⟩
theorem c_turned (h : Inv S M B) (hn : 100000 ≤ n) {x : Int} (hx : zR x) : Ag1 S B M (fun M => F_NC_turned n E S (B + 0) (iI x) M) (fun M => F_Mo_turned n E S (B + 105) (iI x) M) :=
  Ag1.qr h (fun N Ls => iI (if -1 ≤ x ∧ x ≤ 3 then (if (trV N Ls 4096).1 = -1 then -1 else if x = -1 then (trV N Ls 4096).1 else (tO (trV N Ls 4096).2.toNat x.toNat : Int)) else -1)) (fun N Ls hC hh => turned_c rfl h.1 hC hn hx) (fun M N Ls hM hh => turned_m rfl h.1 hM hn hx)
end
