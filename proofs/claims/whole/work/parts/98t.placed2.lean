/-! placed: the search -/
/-- digit b of a row of w digits -/
def dg (w row b : Nat) : Nat := row / 8 ^ (w - 1 - b) % 8
def tkB (w row f : Nat) : Nat → Bool
  | 0 => false
  | i + 1 => if dg w row i = f then true else tkB w row f i
/-- what the first b buckets of a row catch; -1: it can't be -/
def rvG (ct : Nat → Nat → Int) (w row : Nat) : Nat → Int
  | 0 => 0
  | b + 1 => if rvG ct w row b = -1 ∨ ct b (dg w row b) = -1 ∨ tkB w row (dg w row b) b = true then -1 else rvG ct w row b + ct b (dg w row b)
def bsV (ct : Nat → Nat → Int) (w : Nat) : Nat → Int × Int
  | 0 => (-1, 0)
  | row + 1 => if (bsV ct w row).1 < rvG ct w row w then (rvG ct w row w, (row : Int)) else bsV ct w row
theorem tk_t {w row f : Nat} : ∀ k : Nat, tkB w row f k = true ↔ ∃ i, i < k ∧ dg w row i = f := by
  intro k
  induction k with
  | zero => exact ⟨fun h => absurd (show false = true from h) (by decide), fun ⟨i, h, _⟩ => by omega⟩
  | succ k ih =>
    show (if dg w row k = f then true else tkB w row f k) = true ↔ _
    by_cases c : dg w row k = f
    · rw [if_pos c]; exact ⟨fun _ => ⟨k, by omega, c⟩, fun _ => rfl⟩
    · rw [if_neg c, ih]
      constructor
      · intro ⟨i, h1, h2⟩; exact ⟨i, by omega, h2⟩
      · intro ⟨i, h1, h2⟩
        by_cases e : i = k
        · rw [e] at h2; exact absurd h2 c
        · exact ⟨i, by omega, h2⟩
theorem dg_b {w row b : Nat} : dg w row b < 8 := by unfold dg; omega
section
variable {ct : Nat → Nat → Int} {w : Nat}
theorem rv_s {row b : Nat} : rvG ct w row (b + 1) = if rvG ct w row b = -1 ∨ ct b (dg w row b) = -1 ∨ tkB w row (dg w row b) b = true then -1 else rvG ct w row b + ct b (dg w row b) := rfl
theorem rv_b (hct : ∀ b f, b < w → f < 8 → -1 ≤ ct b f ∧ ct b f ≤ 891) {row : Nat} : ∀ b : Nat, b ≤ w → -1 ≤ rvG ct w row b ∧ rvG ct w row b ≤ 891 * b := by
  intro b
  induction b with
  | zero => intro _; exact ⟨show (-1 : Int) ≤ 0 by decide, Int.le_refl 0⟩
  | succ b ih =>
    intro hb
    have h1 := ih (by omega)
    have h2 := hct b (dg w row b) (by omega) dg_b
    rw [rv_s]
    split
    · omega
    · rename_i q; have : ¬ rvG ct w row b = -1 := fun z => q (Or.inl z); have : ¬ ct b (dg w row b) = -1 := fun z => q (Or.inr (Or.inl z)); omega
theorem rv_m {row b : Nat} (h : rvG ct w row b = -1) : ∀ d, rvG ct w row (b + d) = -1 := by
  intro d
  induction d with
  | zero => exact h
  | succ d ih => show rvG ct w row (b + d + 1) = -1; rw [rv_s, if_pos (Or.inl ih)]
theorem rv_sum {row : Nat} : ∀ b : Nat, rvG ct w row b ≠ -1 → rvG ct w row b = zsum (fun b => ct b (dg w row b)) b := by
  intro b
  induction b with
  | zero => intro _; rfl
  | succ b ih =>
    intro h
    rw [rv_s] at h ⊢
    by_cases c : rvG ct w row b = -1 ∨ ct b (dg w row b) = -1 ∨ tkB w row (dg w row b) b = true
    · rw [if_pos c] at h; exact absurd rfl h
    · rw [if_neg c, zsum_s, ih (fun z => c (Or.inl z))]
theorem bs_b (hct : ∀ b f, b < w → f < 8 → -1 ≤ ct b f ∧ ct b f ≤ 891) : ∀ r : Nat, (-1 ≤ (bsV ct w r).1 ∧ (bsV ct w r).1 ≤ 891 * w) ∧ (0 ≤ (bsV ct w r).2 ∧ (bsV ct w r).2 ≤ r) := by
  intro r
  induction r with
  | zero => exact ⟨⟨Int.le_refl (-1), show (-1 : Int) ≤ 891 * w by omega⟩, ⟨Int.le_refl 0, Int.le_refl 0⟩⟩
  | succ r ih =>
    have h1 := rv_b hct (row := r) w (Nat.le_refl _)
    show (-1 ≤ (if (bsV ct w r).1 < rvG ct w r w then (rvG ct w r w, (r : Int)) else bsV ct w r).1 ∧ (if (bsV ct w r).1 < rvG ct w r w then (rvG ct w r w, (r : Int)) else bsV ct w r).1 ≤ 891 * w) ∧ (0 ≤ (if (bsV ct w r).1 < rvG ct w r w then (rvG ct w r w, (r : Int)) else bsV ct w r).2 ∧ (if (bsV ct w r).1 < rvG ct w r w then (rvG ct w r w, (r : Int)) else bsV ct w r).2 ≤ ((r + 1 : Nat) : Int))
    split
    · dsimp only; omega
    · omega
theorem bs_p {r : Nat} (h : (bsV ct w r).1 < rvG ct w r w) : bsV ct w (r + 1) = (rvG ct w r w, (r : Int)) := if_pos h
theorem bs_n {r : Nat} (h : ¬ (bsV ct w r).1 < rvG ct w r w) : bsV ct w (r + 1) = bsV ct w r := if_neg h
theorem bs_skip (hct : ∀ b f, b < w → f < 8 → -1 ≤ ct b f ∧ ct b f ≤ 891) {R : Nat} : ∀ len : Nat, (∀ x, x < len → rvG ct w (R + x) w = -1) → bsV ct w (R + len) = bsV ct w R := by
  intro len
  induction len with
  | zero => intro _; rfl
  | succ len ih =>
    intro h
    have hb := bs_b hct (R + len)
    show bsV ct w (R + len + 1) = _
    rw [bs_n (by rw [h len (by omega)]; omega), ih (fun x hx => h x (by omega))]
end
theorem orb2 : ∀ (m : Fin 256) (l : Fin 8), m.val / 2 ^ l.val % 2 = 0 → iI (m.val : Int) ||| iI (2 ^ l.val) = iI ((m.val + 2 ^ l.val : Nat) : Int) ∧ m.val + 2 ^ l.val < 256 := by decide +kernel
theorem bitp : ∀ (m : Fin 256) (l g : Fin 8), m.val / 2 ^ l.val % 2 = 0 → (m.val + 2 ^ l.val) / 2 ^ g.val % 2 = if g.val = l.val then 1 else m.val / 2 ^ g.val % 2 := by decide +kernel
section
variable {n : Nat} {E : zE} {S : zS} {M M' : zH} {B : Nat} {N N' : Nt} {Ls : Nat → Lw} {ct : Nat → Nat → Int} {w : Nat}
theorem shr_dg {row b : Nat} (hw : w ≤ 3) (hr : row < 512) (hb : b < w) : (iI (row : Int) >>> ((iI 3 * ((iI (w : Int) - iI 1) - iI (b : Int))) &&& iI 31)) &&& iI 7 = iI ((dg w row b : Nat) : Int) := by
  rw [iI_sub, iI_sub, iI_mul, xshr (by omega) (by omega) (by omega) (by omega), xand7]
  congr 1
  unfold dg
  rcases (show w - 1 - b = 0 ∨ w - 1 - b = 1 ∨ w - 1 - b = 2 by omega) with q | q | q
  · rw [q, show (3 * ((w : Int) - 1 - (b : Int))).toNat = 0 by omega]
    show (row : Int) / 1 % 8 = ((row / 1 % 8 : Nat) : Int); omega
  · rw [q, show (3 * ((w : Int) - 1 - (b : Int))).toNat = 3 by omega]
    show (row : Int) / 8 % 8 = ((row / 8 % 8 : Nat) : Int); omega
  · rw [q, show (3 * ((w : Int) - 1 - (b : Int))).toNat = 6 by omega]
    show (row : Int) / 64 % 8 = ((row / 64 % 8 : Nat) : Int); omega
theorem row_c (hS : ShOK S B) (hw : w ≤ 3) (hct : ∀ b f, b < w → f < 8 → -1 ≤ ct b f ∧ ct b f ≤ 891) (h100 : ∀ b f : Nat, b < w → f < 8 → mI M (B + 100) (8 * b + f) = iI (ct b f)) {row : Nat} (hrow : row < 512) : ∀ (r b k tk : Nat), r + b = w → r < k → tk < 256 → (∀ f, f < 8 → (tk / 2 ^ f % 2 = 1 ↔ tkB w row f b = true)) → rvG ct w row b ≠ -1 → zfix (fun r8 s => F_Pa_caughtByRow_L8 n E S r8 s.1 s.2.1 s.2.2.1 s.2.2.2.1 s.2.2.2.2.1 s.2.2.2.2.2.1 s.2.2.2.2.2.2) k (B + 85, iI (w : Int), iI (row : Int), iI (rvG ct w row b), iI (tk : Int), iI (b : Int), M) = some (iI (rvG ct w row w), M) := by
  intro r
  induction r with
  | zero =>
    intro b k tk hr hk htk hb hv
    obtain ⟨k, rfl⟩ : ∃ k', k = k' + 1 := ⟨k - 1, by omega⟩
    have e : b = w := by omega
    subst e
    show F_Pa_caughtByRow_L8 n E S _ (B + 85) (iI (b : Int)) (iI (row : Int)) (iI (rvG ct b row b)) (iI (tk : Int)) (iI (b : Int)) M = _
    unfold F_Pa_caughtByRow_L8
    rw [if_pos (cleT (by omega) (by omega) (by omega))]
  | succ r ih =>
    intro b k tk hr hk htk hb hv
    obtain ⟨k, rfl⟩ : ∃ k', k = k' + 1 := ⟨k - 1, by omega⟩
    have hd := dg_b (w := w) (row := row) (b := b)
    have hcb := hct b (dg w row b) (by omega) hd
    have hrb := rv_b hct (row := row) b (by omega)
    have ih' := fun t2 => ih (b + 1) k t2 (by omega) (by omega)
    show F_Pa_caughtByRow_L8 n E S _ (B + 85) (iI (w : Int)) (iI (row : Int)) (iI (rvG ct w row b)) (iI (tk : Int)) (iI (b : Int)) M = _
    generalize zfix (fun r8 s => F_Pa_caughtByRow_L8 n E S r8 s.1 s.2.1 s.2.2.1 s.2.2.2.1 s.2.2.2.2.1 s.2.2.2.2.2.1 s.2.2.2.2.2.2) k = rec at ih' ⊢
    have ho := orb2 ⟨tk, htk⟩ ⟨dg w row b, hd⟩
    have hp := bitp ⟨tk, htk⟩ ⟨dg w row b, hd⟩
    have hx := bitb ⟨tk, htk⟩ ⟨dg w row b, hd⟩
    dsimp only at ho hp hx
    have hpc : ((tk : Int) / 2 ^ (dg w row b) % 2 = ((tk / 2 ^ (dg w row b) % 2 : Nat) : Int)) := by
      rw [Int.natCast_emod, Int.natCast_ediv, Int.natCast_pow]; rfl
    have hpw : (0 : Int) < 2 ^ (dg w row b) ∧ (2 : Int) ^ (dg w row b) ≤ 128 := by
      rcases (show dg w row b = 0 ∨ dg w row b = 1 ∨ dg w row b = 2 ∨ dg w row b = 3 ∨ dg w row b = 4 ∨ dg w row b = 5 ∨ dg w row b = 6 ∨ dg w row b = 7 by omega) with q | q | q | q | q | q | q | q <;> rw [q] <;> decide
    unfold F_Pa_caughtByRow_L8
    rw [if_neg (cleF (by omega) (by omega) (by omega)), hS.g85_4, obs, iL3, iL1, iL31, iL7, shr_dg hw hrow (by omega), iL8, iI_mul, iI_add, hS.r100 (by omega) (by omega), obs, show ((b : Int) * 8 + ((dg w row b : Nat) : Int)).toNat = 8 * b + dg w row b by omega, h100 b _ (by omega) hd, iI_neg, xshl (by omega) (by omega), Int.one_mul, Int.toNat_natCast, hx, hpc]
    by_cases c1 : ct b (dg w row b) = -1
    · have e := rv_m (ct := ct) (w := w) (row := row) (b := b + 1) (by rw [rv_s, if_pos (Or.inr (Or.inl c1))]) (w - (b + 1))
      rw [show b + 1 + (w - (b + 1)) = w by omega] at e
      rw [if_pos (ceqT c1), e]
    · rw [if_neg (ceqF c1 (by omega) (by omega) (by omega) (by omega)), iL0]
      by_cases c2 : tk / 2 ^ (dg w row b) % 2 = 0
      · have ntk : ¬ tkB w row (dg w row b) b = true := fun q => by have := (hb _ hd).mpr q; omega
        have es : rvG ct w row (b + 1) = rvG ct w row b + ct b (dg w row b) := by
          rw [rv_s, if_neg (fun q => by rcases q with q | q | q; exact hv q; exact c1 q; exact ntk q)]
        rw [c2, show ((0 : Nat) : Int) * 2 ^ (dg w row b) = 0 by omega, if_pos rfl, iI_add, (ho c2).1, iI_add, ← es]
        refine ih' (tk + 2 ^ (dg w row b)) (ho c2).2 (fun f hf => ?_) (by rw [es]; omega)
        have hp' := hp ⟨f, hf⟩ c2
        dsimp only at hp'
        rw [hp']
        show (if f = dg w row b then 1 else tk / 2 ^ f % 2) = 1 ↔ (if dg w row b = f then true else tkB w row f b) = true
        by_cases q : f = dg w row b
        · rw [if_pos q, if_pos q.symm]; exact ⟨fun _ => rfl, fun _ => rfl⟩
        · rw [if_neg q, if_neg (Ne.symm q)]; exact hb f hf
      · have tkk : tkB w row (dg w row b) b = true := (hb _ hd).mp (by omega)
        have e := rv_m (ct := ct) (w := w) (row := row) (b := b + 1) (by rw [rv_s, if_pos (Or.inr (Or.inr tkk))]) (w - (b + 1))
        rw [show b + 1 + (w - (b + 1)) = w by omega] at e
        rw [show tk / 2 ^ (dg w row b) % 2 = 1 by omega, show ((1 : Nat) : Int) * 2 ^ (dg w row b) = 2 ^ (dg w row b) by omega, if_neg (ceqF (by omega) (by omega) (by omega) (by omega) (by omega)), e]
/-- the class's search -/
theorem place_c (hS : ShOK S B) (hC : CN S M B (B + 1) N Ls) (hh : N 9 0 ≤ 999) (hn : 100000 ≤ n) {hrs : Nat} (hr : hrs ≤ 9) (hwN : N 11 0 = (w : Int)) (hw : w ≤ 3) {R : Nat} (hR : R = 8 ^ w) : ∃ M', F_Pa_place n E S (B + 85) (B + 1) (iI (hrs : Int)) M = some (decide ((bsV (ctV N Ls hrs) w R).1 ≠ -1), M') ∧ mI M' (B + 85) 8 = iI (bsV (ctV N Ls hrs) w R).1 ∧ ((bsV (ctV N Ls hrs) w R).1 ≠ -1 → mI M' (B + 85) 9 = iI (bsV (ctV N Ls hrs) w R).2) ∧ zAg (cQ B) M M' := by
  have hN := hC.2.1
  have hI := nA1.ni hS
  have hct : ∀ b f, b < w → f < 8 → -1 ≤ ctV N Ls hrs b f ∧ ctV N Ls hrs b f ≤ 891 := fun b f hb hf => ctV_b hN hh hr (by omega) hf
  have hR512 : R ≤ 512 ∧ 1 ≤ R := by
    rcases (show w = 0 ∨ w = 1 ∨ w = 2 ∨ w = 3 by omega) with q | q | q | q <;> rw [q] at hR <;> omega
  obtain ⟨M0, e0, h0, hA0⟩ := s_findFalls (n := n) (E := E) hS hC hh (by omega) hr
  unfold F_Pa_place F_Pa_place_b8
  rw [hS.ck85, obs, e0, obs]
  obtain ⟨s1, w1, ⟨M1, hs1, h1, hA1⟩, e1⟩ := zfix_inv (F := fun r8 s => F_Pa_place_L8 n E S r8 s.1 s.2.1 s.2.2.1 s.2.2.2.1 s.2.2.2.2) (fun b s => ∃ M1, s = (B + 85, B + 1, iI (hrs : Int), iI (b : Int), M1) ∧ (∀ q f : Nat, q < b → f < 8 → mI M1 (B + 100) (8 * q + f) = iI (ctV N Ls hrs q f)) ∧ zAg (fun q j => cScr B q j ∨ (B + 86 ≤ q ∧ q < B + 98) ∨ q = B + 100) M0 M1) w (fun b hb s hI' => by
    obtain ⟨M1, rfl, h1, hA1⟩ := hI'
    obtain ⟨s2, ⟨M2, hs2, h2, hA2⟩, e2⟩ := zfix_inv2 (F := fun r8 r19 s => F_Pa_place_L19 n E S r8 r19 s.1 s.2.1 s.2.2.1 s.2.2.2.1 s.2.2.2.2.1 s.2.2.2.2.2) (fun f s => ∃ M2, s = (B + 85, B + 1, iI (hrs : Int), iI (b : Int), iI (f : Int), M2) ∧ (∀ q g : Nat, (q < b ∧ g < 8) ∨ (q = b ∧ g < f) → mI M2 (B + 100) (8 * q + g) = iI (ctV N Ls hrs q g)) ∧ zAg (fun q j => cScr B q j ∨ (B + 86 ≤ q ∧ q < B + 98) ∨ q = B + 100) M0 M2) 8 (fun f hf s hI' => by
      obtain ⟨M2, rfl, h2, hA2⟩ := hI'
      have hC2 : CN S M2 B (B + 1) N Ls := (hC.cq hA0).ag hA2 (fun b j q => by unfold cScr at q; omega)
      obtain ⟨M3, e3, hA3⟩ := s_isBarred (n := n) (E := E) (b := (b : Int)) (f := (f : Int)) hS nA1 hC2 (by omega) (by omega) (by omega) (by omega) (by omega)
      have hC3 := hC2.scr nA1 hA3
      have fin : ∀ (M4 : zH) (v : Int), v = ctV N Ls hrs b f → zAg (fun q j => cScr B q j ∨ (B + 86 ≤ q ∧ q < B + 98)) M2 M4 → (∀ q g : Nat, (q < b ∧ g < 8) ∨ (q = b ∧ g < f + 1) → mI (setI M4 (B + 100) (8 * b + f) (iI v)) (B + 100) (8 * q + g) = iI (ctV N Ls hrs q g)) ∧ zAg (fun q j => cScr B q j ∨ (B + 86 ≤ q ∧ q < B + 98) ∨ q = B + 100) M0 (setI M4 (B + 100) (8 * b + f) (iI v)) := fun M4 v hv hA4 => by
        refine ⟨fun q g hq => ?_, (hA2.trans (hA4.mono (fun b j q => ?_))).setI (Or.inr (Or.inr rfl))⟩
        · rw [mI_ite]
          by_cases c : q = b ∧ g = f
          · rw [if_pos ⟨rfl, by omega⟩, c.1, c.2, hv]
          · rw [if_neg (fun z => c (by omega)), (hA4 _ _ (fun z => by unfold cScr at z; omega)).1]
            exact h2 q g (by omega)
        · rcases q with q | q
          · exact Or.inl q
          · exact Or.inr (Or.inl q)
      by_cases c : barV N Ls (b : Int) (f : Int) = 1
      · obtain ⟨k1, k2⟩ := fin M3 (-1) (by unfold ctV; rw [if_pos c]) (hA3.mono (fun b j q => Or.inl q))
        refine ⟨(B + 85, B + 1, iI (hrs : Int), iI (b : Int), iI ((f + 1 : Nat) : Int), _), ⟨_, rfl, k1, k2⟩, fun r8 rec => ?_⟩
        show F_Pa_place_L19 n E S r8 rec (B + 85) (B + 1) (iI (hrs : Int)) (iI (b : Int)) (iI (f : Int)) M2 = _
        unfold F_Pa_place_L19 F_Pa_place_b68
        rw [iL8, if_neg (cleF (by omega) (by omega) (by omega)), hS.g85_0, obs, hS.ck76, obs, e3, obs, hS.g85_4, obs, if_neg (show ¬ bI (decide (barV N Ls (b : Int) (f : Int) = 1)) = 0 from by rw [decide_eq_true c]; decide), iI_mul, iI_add, hS.w100 (by omega) (by omega), obs, iL1, iI_add, iI_neg, show ((b : Int) * 8 + (f : Int)).toNat = 8 * b + f by omega]
        rfl
      · have hfa3 : ∀ h f : Nat, h < hrs → f < 8 → mI M3 (B + 99) (8 * h + f) = iI (flowV (nT N h) Ls (f : Int)) := fun h f hh hf => by
          rw [(hA3 _ _ (fun z => by unfold cScr at z; omega)).1, (hA2 _ _ (fun z => by unfold cScr at z; omega)).1]; exact h0 h f hh hf
        obtain ⟨M4, e4, hA4⟩ := s_catchOn (n := n) (E := E) hS hC3 hh (by omega) hr (b := b) (by omega) hf hfa3
        obtain ⟨k1, k2⟩ := fin M4 (plIt N Ls b (f : Int) hrs).2 (by unfold ctV; rw [if_neg c]) ((hA3.mono (fun b j q => Or.inl q)).trans hA4)
        refine ⟨(B + 85, B + 1, iI (hrs : Int), iI (b : Int), iI ((f + 1 : Nat) : Int), _), ⟨_, rfl, k1, k2⟩, fun r8 rec => ?_⟩
        show F_Pa_place_L19 n E S r8 rec (B + 85) (B + 1) (iI (hrs : Int)) (iI (b : Int)) (iI (f : Int)) M2 = _
        unfold F_Pa_place_L19 F_Pa_place_b68
        rw [iL8, if_neg (cleF (by omega) (by omega) (by omega)), hS.g85_0, obs, hS.ck76, obs, e3, obs, hS.g85_4, obs, if_pos (show bI (decide (barV N Ls (b : Int) (f : Int) = 1)) = 0 from by rw [decide_eq_false c]; rfl), e4, obs, iI_mul, iI_add, hS.w100 (by omega) (by omega), obs, iL1, iI_add, show ((b : Int) * 8 + (f : Int)).toNat = 8 * b + f by omega]
        rfl) n 0 (B + 85, B + 1, iI (hrs : Int), iI (b : Int), 0, M1) (by omega) (by omega) ⟨M1, rfl, fun q g hq => h1 q g (by omega) (by omega), hA1⟩
    have hC1 : CN S M1 B (B + 1) N Ls := (hC.cq hA0).ag hA1 (fun b j q => by unfold cScr at q; omega)
    refine ⟨(B + 85, B + 1, iI (hrs : Int), iI ((b + 1 : Nat) : Int), M2), ⟨M2, rfl, fun q g hq hg => h2 q g (by omega), hA2⟩, fun rec => ?_⟩
    show F_Pa_place_L8 n E S rec (B + 85) (B + 1) (iI (hrs : Int)) (iI (b : Int)) M1 = _
    unfold F_Pa_place_L8 F_Pa_place_b19
    obtain ⟨w, e5⟩ := e2 rec
    rw [hI.i11 hC1.1, obs, hwN, if_neg (cleF (by omega) (by omega) (by omega))]
    refine e5.trans ?_
    rw [hs2]
    show F_Pa_place_L19 n E S rec _ (B + 85) (B + 1) (iI (hrs : Int)) (iI (b : Int)) (iI ((8 : Nat) : Int)) M2 = _
    unfold F_Pa_place_L19
    rw [iL8, if_pos (cleT (by omega) (by omega) (by omega)), iL1, iI_add]
    rfl) n 0 (B + 85, B + 1, iI (hrs : Int), 0, M0) (by omega) (by omega) ⟨M0, rfl, fun q f hq => by omega, zAg.rfl'⟩
  have hC1 : CN S M1 B (B + 1) N Ls := (hC.cq hA0).ag hA1 (fun b j q => by unfold cScr at q; omega)
  obtain ⟨s2, w2, ⟨M2, hs2, h8, h9, hA2⟩, e2⟩ := zfix_inv (F := fun r98 s => F_Pa_place_L98 n E S r98 s.1 s.2.1 s.2.2.1 s.2.2.2.1 s.2.2.2.2) (fun row s => ∃ M2, s = (B + 85, B + 1, iI (R : Int), iI (row : Int), M2) ∧ mI M2 (B + 85) 8 = iI (bsV (ctV N Ls hrs) w row).1 ∧ ((bsV (ctV N Ls hrs) w row).1 ≠ -1 → mI M2 (B + 85) 9 = iI (bsV (ctV N Ls hrs) w row).2) ∧ zAg (fun b j => b = B + 85) M1 M2) R (fun row hrow s hI' => by
    obtain ⟨M2, rfl, h8, h9, hA2⟩ := hI'
    have hC2 : CN S M2 B (B + 1) N Ls := hC1.ag hA2 (fun b j q => by omega)
    have hbb := bs_b hct row
    have hrb := rv_b hct (row := row) w (Nat.le_refl _)
    have er : F_Pa_caughtByRow n E S (B + 85) (iI (w : Int)) (iI (row : Int)) M2 = some (iI (rvG (ctV N Ls hrs) w row w), M2) := by
      exact row_c (n := n) (E := E) hS hw hct (fun b f hb hf => by rw [(hA2 _ _ (by omega)).1]; exact h1 b f hb hf) (by omega) w 0 n 0 (by omega) (by omega) (by omega) (fun f hf => ⟨fun q => by rw [Nat.zero_div] at q; exact absurd q (by decide), fun q => absurd q (by decide : ¬ false = true)⟩) (show (0 : Int) ≠ -1 by decide)
    by_cases c : (bsV (ctV N Ls hrs) w row).1 < rvG (ctV N Ls hrs) w row w
    · refine ⟨(B + 85, B + 1, iI (R : Int), iI ((row + 1 : Nat) : Int), setI (setI M2 (B + 85) 8 (iI (rvG (ctV N Ls hrs) w row w))) (B + 85) 9 (iI (row : Int))), ⟨_, rfl, by rw [bs_p c, mI_i (by decide), mI_s], fun _ => by rw [bs_p c, mI_s], (hA2.setI rfl).setI rfl⟩, fun rec => ?_⟩
      show F_Pa_place_L98 n E S rec (B + 85) (B + 1) (iI (R : Int)) (iI (row : Int)) M2 = _
      unfold F_Pa_place_L98 F_Pa_place_b137
      rw [if_neg (cleF (by omega) (by omega) (by omega)), hI.i11 hC2.1, obs, hwN, hS.ck85, obs, er, obs, hS.i85, obs, h8, if_neg (cleF (by omega) (by omega) (by omega)), hS.p85, obs, hS.p85, obs, iL1, iI_add]
      rfl
    · refine ⟨(B + 85, B + 1, iI (R : Int), iI ((row + 1 : Nat) : Int), M2), ⟨_, rfl, by rw [bs_n c]; exact h8, by rw [bs_n c]; exact h9, hA2⟩, fun rec => ?_⟩
      show F_Pa_place_L98 n E S rec (B + 85) (B + 1) (iI (R : Int)) (iI (row : Int)) M2 = _
      unfold F_Pa_place_L98 F_Pa_place_b137
      rw [if_neg (cleF (by omega) (by omega) (by omega)), hI.i11 hC2.1, obs, hwN, hS.ck85, obs, er, obs, hS.i85, obs, h8, if_pos (cleT (by omega) (by omega) (by omega)), iL1, iI_add]
      rfl) n 0 (B + 85, B + 1, iI (R : Int), 0, setI M1 (B + 85) 8 (iI (-1))) (by omega) (by omega) ⟨_, rfl, by rw [mI_s]; rfl, fun q => absurd rfl q, zAg.rfl'.setI rfl⟩
  refine ⟨M2, ?_, h8, h9, ?_⟩
  · refine e1.trans ?_
    rw [hs1]
    show F_Pa_place_L8 n E S _ (B + 85) (B + 1) (iI (hrs : Int)) (iI (w : Int)) M1 = _
    have hC1' : CN S (setI M1 (B + 85) 8 (iI (-1))) B (B + 1) N Ls := hC1.ag (X := fun b j => b = B + 85) (zAg.rfl'.setI rfl) (fun b j q => by omega)
    have esh : iI 1 <<< ((iI 3 * iI (w : Int)) &&& iI 31) = iI (R : Int) := by
      rw [iI_mul, xshl (by omega) (by omega), Int.one_mul, hR]
      rcases (show w = 0 ∨ w = 1 ∨ w = 2 ∨ w = 3 by omega) with q | q | q | q <;> rw [q] <;> rfl
    unfold F_Pa_place_L8 F_Pa_place_b98
    rw [hI.i11 hC1.1, obs, hwN, if_pos (cleT (by omega) (by omega) (by omega)), iL1, iI_neg, hS.p85, obs, hI.i11 hC1'.1, obs, hwN, iL3, iL31, esh]
    refine e2.trans ?_
    rw [hs2]
    show F_Pa_place_L98 n E S _ (B + 85) (B + 1) (iI (R : Int)) (iI (R : Int)) M2 = _
    have hbb := bs_b hct R
    unfold F_Pa_place_L98
    rw [if_pos (cleT (by omega) (by omega) (by omega)), hS.i85, obs, h8, iL1, iI_neg]
    by_cases c : (bsV (ctV N Ls hrs) w R).1 = -1
    · rw [if_pos (ceqT c), decide_eq_false (fun q => q c)]
    · rw [if_neg (ceqF c (by omega) (by omega) (by omega) (by omega)), decide_eq_true c]
  · refine (hA0.trans (hA1.mono (fun b j q => ?_))).trans (hA2.mono (fun b j q => ?_))
    · unfold cScr at q; unfold cQ; omega
    · unfold cQ; omega
end
