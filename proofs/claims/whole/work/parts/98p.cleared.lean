/-! CASES (13): cleared -/
def clH (N : Nt) (f : Int) (r : Nat) : Int := (f - N 2 r) % 8
def clB (N : Nt) (f : Int) (r : Nat) : Int := N 1 (8 * r + (clH N f r).toNat)
def clW (N : Nt) (Ls : Nat → Lw) (f : Int) (r : Nat) : Int := runsF N Ls (r : Int) (clH N f r) f
/-- the rings that are asked for are blocked; threads then -/
def clC (N : Nt) (f : Int) (s : Nat) : Nat → Bool
  | 0 => true
  | r + 1 => if s / 2 ^ r % 2 = 1 ∧ clB N f r = 0 then false else clC N f s r
def clN (N : Nt) (Ls : Nat → Lw) (f : Int) (s : Nat) : Nat → Int := zsum (fun r => if clB N f r = 0 ∨ s / 2 ^ r % 2 = 1 then clW N Ls f r else 0)
def onS (s : Nat) : Int := ((s % 2 + s / 2 % 2 + s / 4 % 2 + s / 8 % 2 : Nat) : Int)
def clV (N : Nt) (Ls : Nat → Lw) (f v : Int) : Nat → Int × Int
  | 0 => (5, -1)
  | s + 1 => if clC N f s 4 = true ∧ v ≤ clN N Ls f s 4 ∧ onS s < (clV N Ls f v s).1 then (onS s, (s : Int)) else clV N Ls f v s
theorem andn : ∀ s bl : Fin 16, (iI (s.val : Int) &&& (iI (bl.val : Int) ^^^ iI (-1)) = iI 0) ↔ ∀ r : Fin 4, s.val / 2 ^ r.val % 2 = 1 → bl.val / 2 ^ r.val % 2 = 1 := by decide +kernel
section
variable {n : Nat} {E : zE} {S : zS} {M M' : zH} {B : Nat} {N N' : Nt} {Ls : Nat → Lw}
theorem s_bitCount {s : Nat} (hs : s < 16) : F_Ji_bitCount n E S (iI (s : Int)) M = some (iI (onS s), M) := by
  unfold F_Ji_bitCount
  rcases (show s = 0 ∨ s = 1 ∨ s = 2 ∨ s = 3 ∨ s = 4 ∨ s = 5 ∨ s = 6 ∨ s = 7 ∨ s = 8 ∨ s = 9 ∨ s = 10 ∨ s = 11 ∨ s = 12 ∨ s = 13 ∨ s = 14 ∨ s = 15 by omega) with rfl | rfl | rfl | rfl | rfl | rfl | rfl | rfl | rfl | rfl | rfl | rfl | rfl | rfl | rfl | rfl <;> rfl
theorem s_onesS {s : Nat} (hs : s < 16) (hn : 100 ≤ n) : F_Mo_ones n E S (iI (s : Int)) M = some (iI (onS s), M) := by
  rw [s_ones hn (by omega) (by omega)]
  have e : onesV (s : Int) 8 = onS s := by
    show 0 + (s : Int) / 1 % 2 + (s : Int) / 2 % 2 + (s : Int) / 4 % 2 + (s : Int) / 8 % 2 + (s : Int) / 16 % 2 + (s : Int) / 32 % 2 + (s : Int) / 64 % 2 + (s : Int) / 128 % 2 = _
    unfold onS
    omega
  rw [e]
theorem onS_b {s : Nat} (hs : s < 16) : 0 ≤ onS s ∧ onS s ≤ 4 := by unfold onS; omega
theorem clW_b (hN : NdOK N) {f : Int} {r : Nat} (hr : r < 4) (hf0 : 0 ≤ f) (hf : f < 8) : 0 ≤ clW N Ls f r ∧ clW N Ls f r ≤ 99 := by
  have ht := hN.turn hr
  have e : clW N Ls f r = runsV N Ls (r : Int) (clH N f r) := by
    unfold clW
    rw [runsV_F]
    congr 1
    unfold clH
    rw [Int.toNat_natCast]
    omega
  rw [e]
  exact runsV_b hN (by omega) (by omega) (by unfold clH; omega) (by unfold clH; omega)
theorem clB_b (hN : NdOK N) {f : Int} {r : Nat} (hr : r < 4) : clB N f r = 0 ∨ clB N f r = 1 := hN.blk (by unfold clH; omega)
theorem clC_t {f : Int} {s : Nat} : ∀ k : Nat, clC N f s k = true ↔ ∀ r, r < k → s / 2 ^ r % 2 = 1 → ¬ clB N f r = 0 := by
  intro k
  induction k with
  | zero => exact ⟨fun _ r hr => by omega, fun _ => rfl⟩
  | succ k ih =>
    show (if s / 2 ^ k % 2 = 1 ∧ clB N f k = 0 then false else clC N f s k) = true ↔ _
    by_cases c : s / 2 ^ k % 2 = 1 ∧ clB N f k = 0
    · rw [if_pos c]
      exact ⟨fun h => absurd h (by decide), fun h => absurd c.2 (h k (by omega) c.1)⟩
    · rw [if_neg c, ih]
      constructor
      · intro h r hr
        by_cases e : r = k
        · rw [e]; exact fun q1 q2 => c ⟨q1, q2⟩
        · exact h r (by omega)
      · intro h r hr; exact h r (by omega)
/-- what runs, and what the rings of s would -/
def clR (N : Nt) (Ls : Nat → Lw) (f : Int) : Nat → Int := zsum (fun r => if clB N f r = 0 then clW N Ls f r else 0)
def clS (N : Nt) (Ls : Nat → Lw) (f : Int) (s : Nat) : Nat → Int := zsum (fun r => if s / 2 ^ r % 2 = 1 then clW N Ls f r else 0)
def clM (N : Nt) (f : Int) : Nat → Int := zsum (fun r => if clB N f r = 0 then 0 else 2 ^ r)
theorem clN_rs {f : Int} {s : Nat} : ∀ k : Nat, clC N f s k = true → clN N Ls f s k = clR N Ls f k + clS N Ls f s k := by
  intro k
  induction k with
  | zero => intro _; rfl
  | succ k ih =>
    intro h
    have h1 : clC N f s k = true := (clC_t k).mpr (fun r hr => (clC_t (k + 1)).mp h r (by omega))
    have h2 := (clC_t (k + 1)).mp h k (by omega)
    have e := ih h1
    show clN N Ls f s k + (if clB N f k = 0 ∨ s / 2 ^ k % 2 = 1 then clW N Ls f k else 0) = clR N Ls f k + (if clB N f k = 0 then clW N Ls f k else 0) + (clS N Ls f s k + (if s / 2 ^ k % 2 = 1 then clW N Ls f k else 0))
    by_cases c1 : clB N f k = 0
    · by_cases c2 : s / 2 ^ k % 2 = 1
      · exact absurd c1 (h2 c2)
      · rw [if_pos (Or.inl c1), if_pos c1, if_neg c2]; omega
    · by_cases c2 : s / 2 ^ k % 2 = 1
      · rw [if_pos (Or.inr c2), if_neg c1, if_pos c2]; omega
      · rw [if_neg (fun q => q.elim c1 c2), if_neg c1, if_neg c2]; omega
theorem sum_b {g : Nat → Int} (h : ∀ r, r < 4 → 0 ≤ g r ∧ g r ≤ 99) : ∀ k, k ≤ 4 → 0 ≤ zsum g k ∧ zsum g k ≤ 99 * k := by
  intro k
  induction k with
  | zero => intro _; exact ⟨Int.le_refl 0, Int.le_refl 0⟩
  | succ k ih => intro hk; have h1 := ih (by omega); have h2 := h k (by omega); rw [zsum_s]; omega
theorem clM_b {f : Int} : ∀ k, k ≤ 4 → 0 ≤ clM N f k ∧ clM N f k < 2 ^ k := by
  intro k
  induction k with
  | zero => intro _; exact ⟨Int.le_refl 0, show (0 : Int) < 2 ^ 0 by decide⟩
  | succ k ih =>
    intro hk
    have h1 := ih (by omega)
    show 0 ≤ clM N f k + (if clB N f k = 0 then 0 else 2 ^ k) ∧ clM N f k + (if clB N f k = 0 then 0 else 2 ^ k) < 2 ^ (k + 1)
    rw [Int.pow_succ]
    split <;> omega
theorem clM_t {f : Int} {r : Nat} (hr : r < 4) : (clM N f 4).toNat / 2 ^ r % 2 = 1 ↔ ¬ clB N f r = 0 := by
  have e : clM N f 4 = 0 + (if clB N f 0 = 0 then 0 else 1) + (if clB N f 1 = 0 then 0 else 2) + (if clB N f 2 = 0 then 0 else 4) + (if clB N f 3 = 0 then 0 else 8) := rfl
  rw [e]
  rcases (show r = 0 ∨ r = 1 ∨ r = 2 ∨ r = 3 by omega) with rfl | rfl | rfl | rfl <;> (repeat' split) <;> simp_all
theorem cl_p {f v : Int} {s : Nat} (h : clC N f s 4 = true ∧ v ≤ clN N Ls f s 4 ∧ onS s < (clV N Ls f v s).1) : clV N Ls f v (s + 1) = (onS s, (s : Int)) := if_pos h
theorem cl_n {f v : Int} {s : Nat} (h : ¬ (clC N f s 4 = true ∧ v ≤ clN N Ls f s 4 ∧ onS s < (clV N Ls f v s).1)) : clV N Ls f v (s + 1) = clV N Ls f v s := if_neg h
theorem clV_b {f v : Int} : ∀ s : Nat, s ≤ 16 → (0 ≤ (clV N Ls f v s).1 ∧ (clV N Ls f v s).1 ≤ 5) ∧ (-1 ≤ (clV N Ls f v s).2 ∧ (clV N Ls f v s).2 < s) ∧ ((clV N Ls f v s).1 = 5 ↔ (clV N Ls f v s).2 = -1) := by
  intro s
  induction s with
  | zero => intro _; exact ⟨⟨show (0 : Int) ≤ 5 by decide, Int.le_refl 5⟩, ⟨Int.le_refl (-1), show (-1 : Int) < ((0 : Nat) : Int) by decide⟩, ⟨fun _ => rfl, fun _ => rfl⟩⟩
  | succ s ih =>
    intro hs
    have h1 := ih (by omega)
    have h2 := onS_b (s := s) (by omega)
    by_cases c : clC N f s 4 = true ∧ v ≤ clN N Ls f s 4 ∧ onS s < (clV N Ls f v s).1
    · rw [cl_p c]; dsimp only; omega
    · rw [cl_n c]; omega
theorem s_sharesOf (hS : ShOK S B) {f : Int} (hw : ∀ r : Nat, r < 4 → mI M (B + 98) r = iI (clW N Ls f r)) (hn : 600 ≤ n) {s : Nat} (hs : s < 16) : F_Pa_sharesOf n E S (B + 85) (iI (s : Int)) M = some (iI (clS N Ls f s 4), M) := by
  unfold F_Pa_sharesOf F_Pa_sharesOf_b4
  obtain ⟨m, e⟩ := zfix_for (F := fun r4 s => F_Pa_sharesOf_L4 n E S r4 s.1 s.2.1 s.2.2.1 s.2.2.2.1 s.2.2.2.2) (fun i => (B + 85, iI (s : Int), iI (clS N Ls f s i), iI (i : Int), M)) 4 (fun i hi rec => by
    have xb := bitb ⟨s, by omega⟩ ⟨i, by omega⟩
    dsimp only at xb
    show F_Pa_sharesOf_L4 n E S rec (B + 85) (iI (s : Int)) (iI (clS N Ls f s i)) (iI (i : Int)) M = rec (B + 85, iI (s : Int), iI (clS N Ls f s i + (if s / 2 ^ i % 2 = 1 then clW N Ls f i else 0)), iI ((i + 1 : Nat) : Int), M)
    have hp : ((s : Int) / 2 ^ i % 2 = ((s / 2 ^ i % 2 : Nat) : Int)) := by
      rw [Int.natCast_emod, Int.natCast_ediv, Int.natCast_pow]; rfl
    have hpw : (0 : Int) < 2 ^ i ∧ (2 : Int) ^ i ≤ 8 := by
      rcases (show i = 0 ∨ i = 1 ∨ i = 2 ∨ i = 3 by omega) with rfl | rfl | rfl | rfl <;> decide
    unfold F_Pa_sharesOf_L4 F_Pa_sharesOf_b28
    rw [iL4, if_neg (cleF (by omega) (by omega) (by omega)), iL1, iL31, xshl (by omega) (by omega), Int.one_mul, Int.toNat_natCast, xb, hp, hS.g85_2, obs, hS.r98 (by omega) (by omega), obs, Int.toNat_natCast, hw i hi, iI_add (i : Int) 1, iL0]
    by_cases c : s / 2 ^ i % 2 = 1
    · rw [c, if_pos rfl, show ((1 : Nat) : Int) * 2 ^ i = 2 ^ i by omega, if_neg (ceqF (by omega) (by omega) (by omega) (by omega) (by omega)), iI_add]; rfl
    · rw [show s / 2 ^ i % 2 = 0 by omega, show ((0 : Nat) : Int) * 2 ^ i = 0 by omega, if_pos rfl, if_neg (by decide), iI_add]; rfl) (k := n) (by omega)
  refine e.trans ?_
  show F_Pa_sharesOf_L4 n E S _ (B + 85) (iI (s : Int)) (iI (clS N Ls f s 4)) (iI ((4 : Nat) : Int)) M = _
  unfold F_Pa_sharesOf_L4
  rw [if_pos (by decide)]
theorem cleared_c (hS : ShOK S B) (hC : CN S M B (B + 1) N Ls) (hn : 100000 ≤ n) {f v : Int} (hf0 : 0 ≤ f) (hf : f < 8) (hv0 : 0 ≤ v) (hv : v ≤ 400) : ∃ M', F_Pa_findCleared n E S (B + 85) (B + 1) (iI f) (iI v) M = some (decide ((clV N Ls f v 16).1 ≤ 4), M') ∧ mI M' (B + 85) 8 = iI (clV N Ls f v 16).1 ∧ ((clV N Ls f v 16).1 ≤ 4 → mI M' (B + 85) 9 = iI (clV N Ls f v 16).2) ∧ zAg (cQ B) M M' := by
  have hN := hC.2.1
  have hI := nA1.ni hS
  unfold F_Pa_findCleared F_Pa_findCleared_b9
  obtain ⟨s1, w1, ⟨M1, hs1, h1, hA1⟩, e1⟩ := zfix_inv (F := fun r9 s => F_Pa_findCleared_L9 n E S r9 s.1 s.2.1 s.2.2.1 s.2.2.2.1 s.2.2.2.2.1 s.2.2.2.2.2.1 s.2.2.2.2.2.2.1 s.2.2.2.2.2.2.2) (fun r s => ∃ M1, s = (B + 85, B + 1, iI f, iI v, iI (clR N Ls f r), iI (clM N f r), iI (r : Int), M1) ∧ (∀ q, q < r → mI M1 (B + 98) q = iI (clW N Ls f q)) ∧ zAg (cQ B) M M1) 4 (fun r hr s hI' => by
    obtain ⟨M1, rfl, h1, hA1⟩ := hI'
    have hC1 := hC.cq hA1
    have ht := hN.turn hr
    have hbb := clB_b (N := N) (f := f) hN hr
    have hmb := clM_b (N := N) (f := f) r (by omega)
    have hh : 0 ≤ clH N f r ∧ clH N f r < 8 := by unfold clH; omega
    obtain ⟨M2, e2, hA2⟩ := s_runsOf (n := n) (E := E) (r := (r : Int)) (h := clH N f r) hS nA1 hC1 (by omega) (by omega) (by omega) hh.1 hh.2
    have ew : runsV N Ls (r : Int) (clH N f r) = clW N Ls f r := by
      unfold clW
      rw [runsV_F]
      congr 1
      unfold clH
      rw [Int.toNat_natCast]
      omega
    rw [ew] at e2
    have hA3 : zAg (cQ B) M (setI M2 (B + 98) r (iI (clW N Ls f r))) := (hA1.trans (cQ_c hA2)).setI (by unfold cQ; omega)
    have hC3 := hC.cq hA3
    have eB : N 1 ((r : Int) * 8 + clH N f r).toNat = clB N f r := by
      unfold clB; congr 1; omega
    have eH := s_holeAbove (n := n) (E := E) (r := (r : Int)) (f := f) hI hC1.1 hN (by omega) (by omega) hf0 hf
    rw [Int.toNat_natCast] at eH
    refine ⟨(B + 85, B + 1, iI f, iI v, iI (clR N Ls f (r + 1)), iI (clM N f (r + 1)), iI ((r + 1 : Nat) : Int), setI M2 (B + 98) r (iI (clW N Ls f r))), ⟨_, rfl, fun q hq => ?_, hA3⟩, fun rec => ?_⟩
    · rw [mI_ite]
      by_cases d : q = r
      · rw [if_pos ⟨rfl, d⟩, d]
      · rw [if_neg (fun z => d z.2), (hA2 _ _ (fun z => by unfold cScr at z; omega)).1, h1 q (by omega)]
    · show F_Pa_findCleared_L9 n E S rec (B + 85) (B + 1) (iI f) (iI v) (iI (clR N Ls f r)) (iI (clM N f r)) (iI (r : Int)) M1 = rec (B + 85, B + 1, iI f, iI v, iI (clR N Ls f r + (if clB N f r = 0 then clW N Ls f r else 0)), iI (clM N f r + (if clB N f r = 0 then 0 else 2 ^ r)), iI ((r + 1 : Nat) : Int), setI M2 (B + 98) r (iI (clW N Ls f r)))
      unfold F_Pa_findCleared_L9 F_Pa_findCleared_b83
      rw [iL4, if_neg (cleF (by omega) (by omega) (by omega)), hI.ck, obs, eH, obs, hS.g85_2, obs, hS.g85_0, obs, hS.ck76, obs, show (f - N 2 r) % 8 = clH N f r from rfl, e2, obs, hS.w98 (by omega) (by omega), obs, hI.g1, obs, iL8, iI_mul, iI_add, Int.toNat_natCast, hI.r1 hC3.1 (by omega) (by omega), obs, eB, hS.r98 (by omega) (by omega), obs, Int.toNat_natCast, mI_s, iL1, iI_add (r : Int) 1, iL31, xshl (by omega) (by omega), Int.one_mul, Int.toNat_natCast, iL0]
      by_cases d : clB N f r = 0
      · rw [if_pos (ceqT d), if_pos d, if_pos d, Int.add_zero, iI_add]; rfl
      · have xo := orb ⟨(clM N f r).toNat, by
          have : (2 : Int) ^ r ≤ 8 := by rcases (show r = 0 ∨ r = 1 ∨ r = 2 ∨ r = 3 by omega) with rfl | rfl | rfl | rfl <;> decide
          omega⟩ ⟨r, by omega⟩ (by
          show (clM N f r).toNat < 2 ^ r
          have : ((2 ^ r : Nat) : Int) = (2 : Int) ^ r := by rw [Int.natCast_pow]; rfl
          omega)
        dsimp only at xo
        rw [show (((clM N f r).toNat : Nat) : Int) = clM N f r by omega] at xo
        rw [if_neg (ceqF d (by omega) (by omega) (by omega) (by omega)), if_neg d, if_neg d, Int.add_zero, xo]; rfl) n 0 (B + 85, B + 1, iI f, iI v, 0, 0, 0, M) (by omega) (by omega) ⟨M, rfl, fun q hq => by omega, zAg.rfl'⟩
  have hmb := clM_b (N := N) (f := f) 4 (by omega)
  have hm16 : clM N f 4 < 16 := hmb.2
  have hRb : 0 ≤ clR N Ls f 4 ∧ clR N Ls f 4 ≤ 99 * ((4 : Nat) : Int) := sum_b (fun r hr => by have := clW_b (Ls := Ls) hN hr hf0 hf; split <;> omega) 4 (by omega)
  obtain ⟨s2, w2, ⟨M2, hs2, h8, h9, hA2⟩, e2⟩ := zfix_inv (F := fun r97 s => F_Pa_findCleared_L97 n E S r97 s.1 s.2.1 s.2.2.1 s.2.2.2.1 s.2.2.2.2.1 s.2.2.2.2.2) (fun s st => ∃ M2, st = (B + 85, iI v, iI (clR N Ls f 4), iI (clM N f 4), iI (s : Int), M2) ∧ mI M2 (B + 85) 8 = iI (clV N Ls f v s).1 ∧ ((clV N Ls f v s).1 ≤ 4 → mI M2 (B + 85) 9 = iI (clV N Ls f v s).2) ∧ zAg (fun b j => b = B + 85) M1 M2) 16 (fun s hs st hI' => by
    obtain ⟨M2, rfl, h8, h9, hA2⟩ := hI'
    have hvb := clV_b (N := N) (Ls := Ls) (f := f) (v := v) s (by omega)
    have hob := onS_b (s := s) hs
    have hw2 : ∀ r : Nat, r < 4 → mI M2 (B + 98) r = iI (clW N Ls f r) := fun r hr => by rw [(hA2 _ _ (by omega)).1]; exact h1 r hr
    have hSb : 0 ≤ clS N Ls f s 4 ∧ clS N Ls f s 4 ≤ 99 * ((4 : Nat) : Int) := sum_b (fun r hr => by have := clW_b (Ls := Ls) hN hr hf0 hf; split <;> omega) 4 (by omega)
    have xa := andn ⟨s, hs⟩ ⟨(clM N f 4).toNat, by omega⟩
    dsimp only at xa
    rw [show (((clM N f 4).toNat : Nat) : Int) = clM N f 4 by omega] at xa
    have hcan : (iI (s : Int) &&& (iI (clM N f 4) ^^^ iI (-1)) = iI 0) ↔ clC N f s 4 = true := by
      rw [xa, clC_t]
      constructor
      · intro h r hr q; exact (clM_t hr).mp (h ⟨r, hr⟩ q)
      · intro h r q; exact (clM_t r.isLt).mpr (h r.val r.isLt q)
    by_cases d : clC N f s 4 = true ∧ v ≤ clN N Ls f s 4 ∧ onS s < (clV N Ls f v s).1
    · have ers := clN_rs (Ls := Ls) 4 d.1
      refine ⟨(B + 85, iI v, iI (clR N Ls f 4), iI (clM N f 4), iI ((s + 1 : Nat) : Int), setI (setI M2 (B + 85) 8 (iI (onS s))) (B + 85) 9 (iI (s : Int))), ⟨_, rfl, by rw [cl_p d, mI_i (by decide), mI_s], fun _ => by rw [cl_p d, mI_s], (hA2.setI rfl).setI rfl⟩, fun rec => ?_⟩
      show F_Pa_findCleared_L97 n E S rec (B + 85) (iI v) (iI (clR N Ls f 4)) (iI (clM N f 4)) (iI (s : Int)) M2 = _
      unfold F_Pa_findCleared_L97 F_Pa_findCleared_b119 F_Pa_findCleared_b166
      rw [iL16, if_neg (cleF (by omega) (by omega) (by omega)), iL1, iI_neg, iL0, if_pos (hcan.mpr d.1), if_neg (show ¬ iI 1 = iI 0 by decide), s_bitCount hs, obs, hS.i85, obs, h8, if_neg (cleF (by omega) (by omega) (by omega)), s_sharesOf hS hw2 (by omega) hs, obs, iI_add, if_neg (cltF (by omega) (by omega) (by omega)), s_bitCount hs, obs, hS.p85, obs, hS.p85, obs, iI_add]
      rfl
    · refine ⟨(B + 85, iI v, iI (clR N Ls f 4), iI (clM N f 4), iI ((s + 1 : Nat) : Int), M2), ⟨_, rfl, by rw [cl_n d]; exact h8, by rw [cl_n d]; exact h9, hA2⟩, fun rec => ?_⟩
      show F_Pa_findCleared_L97 n E S rec (B + 85) (iI v) (iI (clR N Ls f 4)) (iI (clM N f 4)) (iI (s : Int)) M2 = _
      unfold F_Pa_findCleared_L97 F_Pa_findCleared_b119 F_Pa_findCleared_b166
      rw [iL16, if_neg (cleF (by omega) (by omega) (by omega)), iL1, iI_neg, iL0, iI_add (s : Int) 1]
      by_cases d1 : clC N f s 4 = true
      · have ers := clN_rs (Ls := Ls) 4 d1
        rw [if_pos (hcan.mpr d1), if_neg (show ¬ iI 1 = iI 0 by decide), s_bitCount hs, obs, hS.i85, obs, h8]
        by_cases d2 : (clV N Ls f v s).1 ≤ onS s
        · rw [if_pos (cleT (by omega) (by omega) (by omega))]; rfl
        · have d3 : ¬ v ≤ clN N Ls f s 4 := fun q => d ⟨d1, q, by omega⟩
          rw [if_neg (cleF (by omega) (by omega) (by omega)), s_sharesOf hS hw2 (by omega) hs, obs, iI_add, if_pos (cltT (by omega) (by omega) (by omega))]; rfl
      · rw [if_neg (fun q => d1 (hcan.mp q)), if_pos rfl]; rfl) n 0 (B + 85, iI v, iI (clR N Ls f 4), iI (clM N f 4), 0, setI M1 (B + 85) 8 (iI 5)) (by omega) (by omega) ⟨_, rfl, by rw [mI_s]; rfl, fun q => absurd q (show ¬ (5 : Int) ≤ 4 by decide), zAg.rfl'.setI rfl⟩
  refine ⟨M2, ?_, h8, h9, hA1.trans (hA2.mono (fun b j q => by unfold cQ; omega))⟩
  refine e1.trans ?_
  rw [hs1]
  show F_Pa_findCleared_L9 n E S _ (B + 85) (B + 1) (iI f) (iI v) (iI (clR N Ls f 4)) (iI (clM N f 4)) (iI ((4 : Nat) : Int)) M1 = _
  unfold F_Pa_findCleared_L9 F_Pa_findCleared_b97
  rw [iL4, if_pos (cleT (by omega) (by omega) (by omega)), iL5, hS.p85, obs]
  refine e2.trans ?_
  rw [hs2]
  show F_Pa_findCleared_L97 n E S _ (B + 85) (iI v) (iI (clR N Ls f 4)) (iI (clM N f 4)) (iI ((16 : Nat) : Int)) M2 = _
  have hvb := clV_b (N := N) (Ls := Ls) (f := f) (v := v) 16 (by omega)
  unfold F_Pa_findCleared_L97
  rw [iL16, if_pos (cleT (by omega) (by omega) (by omega)), hS.i85, obs, h8, iL4]
  by_cases d : (clV N Ls f v 16).1 ≤ 4
  · rw [if_neg (cltF (by omega) (by omega) (by omega)), decide_eq_true d]
  · rw [if_pos (cltT (by omega) (by omega) (by omega)), decide_eq_false d]
def clearedV (N : Nt) (Ls : Nat → Lw) (x y z : Int) : Int := if (0 ≤ x ∧ x ≤ 7) ∧ (0 ≤ y ∧ y ≤ 400) ∧ (0 ≤ z ∧ z ≤ 1) then (if (clV N Ls x y 16).1 ≤ 4 then (if z = 0 then (clV N Ls x y 16).1 else (clV N Ls x y 16).2) else -1) else -1
theorem cleared_m (hS : ShOK S B) (hM : MN M B N Ls) (hn : 100000 ≤ n) {f v z : Int} (hf0 : 0 ≤ f) (hf : f < 8) (hv0 : 0 ≤ v) (hv : v ≤ 400) (hz0 : 0 ≤ z) (hz : z ≤ 1) : ∃ M', F_Mo_cleared_b47 n E S (B + 105, iI f, iI v, iI z, 100000000, -1, 0, M) = some (iI (if (clV N Ls f v 16).1 ≤ 4 then (if z = 0 then (clV N Ls f v 16).1 else (clV N Ls f v 16).2) else -1), M') ∧ zAg (mScr B) M M' := by
  have hN := hM.2.2.1
  unfold F_Mo_cleared_b47
  obtain ⟨s1, w1, ⟨M1, hs1, hA1⟩, e1⟩ := zfix_inv (F := fun r47 s => F_Mo_cleared_L47 n E S r47 s.1 s.2.1 s.2.2.1 s.2.2.2.1 s.2.2.2.2.1 s.2.2.2.2.2.1 s.2.2.2.2.2.2.1 s.2.2.2.2.2.2.2) (fun s st => ∃ M1, st = (B + 105, iI f, iI v, iI z, iI (if (clV N Ls f v s).1 ≤ 4 then (clV N Ls f v s).1 else 100000000), iI (clV N Ls f v s).2, iI (s : Int), M1) ∧ zAg (mScr B) M M1) 16 (fun s hs st hI' => by
    obtain ⟨M1, rfl, hA1⟩ := hI'
    have hvb := clV_b (N := N) (Ls := Ls) (f := f) (v := v) s (by omega)
    have hob := onS_b (s := s) hs
    generalize hle : (if (clV N Ls f v s).1 ≤ 4 then (clV N Ls f v s).1 else (100000000 : Int)) = le
    have hl : 0 ≤ le ∧ le ≤ 100000000 ∧ (onS s < le ↔ onS s < (clV N Ls f v s).1) := by rw [← hle]; split <;> omega
    obtain ⟨s2, ⟨M2, hs2, hA2⟩, e2⟩ := zfix_inv2 (F := fun r47 r63 s => F_Mo_cleared_L63 n E S r47 r63 s.1 s.2.1 s.2.2.1 s.2.2.2.1 s.2.2.2.2.1 s.2.2.2.2.2.1 s.2.2.2.2.2.2.1 s.2.2.2.2.2.2.2.1 s.2.2.2.2.2.2.2.2.1 s.2.2.2.2.2.2.2.2.2.1 s.2.2.2.2.2.2.2.2.2.2) (fun r st => ∃ M2, st = (B + 105, iI f, iI v, iI z, iI le, iI (clV N Ls f v s).2, iI (s : Int), iI (if clC N f s r = true then 1 else 0), iI (clN N Ls f s r), iI (r : Int), M2) ∧ zAg (mScr B) M M2) 4 (fun r hr st hI' => by
      obtain ⟨M2, rfl, hA2⟩ := hI'
      have hM2 := hM.scr hA2
      have ht := hN.turn hr
      have hbb := clB_b (N := N) (f := f) hN hr
      have hh : 0 ≤ clH N f r ∧ clH N f r < 8 := by unfold clH; omega
      obtain ⟨M3, e3, hA3⟩ := s_mruns (n := n) (E := E) (r := (r : Int)) (h := clH N f r) (f := f) hS hM2 (by omega) (by omega) (by omega) hh.1 hh.2 hf0 hf
      have eis : ∀ M' : zH, F_Mo_is n E S (iI (s : Int)) (iI (r : Int)) M' = some (decide (s / 2 ^ r % 2 = 1), M') := fun M' => by
        unfold F_Mo_is
        have hp : ((s : Int) / 2 ^ r % 2 = ((s / 2 ^ r % 2 : Nat) : Int)) := by
          rw [Int.natCast_emod, Int.natCast_ediv, Int.natCast_pow]; rfl
        rw [iL31, xshr (by omega) (by omega) (by omega) (by omega), iL1, xand1, Int.toNat_natCast, hp]
        by_cases q : s / 2 ^ r % 2 = 1
        · rw [if_pos (ceqT (by omega)), decide_eq_true q]
        · rw [if_neg (ceqF (by omega) (by omega) (by omega) (by omega) (by omega)), decide_eq_false q]
      have eH : F_Mo_holeAbove n E S (B + 105) (iI (r : Int)) (iI f) (iI (N 2 r)) M2 = some (iI (clH N f r), M2) := s_mholeAbove hf0 hf ht.1 ht.2
      have pre : ∀ r47 rec (Mx : zH), (∀ c0 : Int32, F_Mo_cleared_b130 n E S r47 rec (B + 105) (iI f) (iI v) (iI z) (iI le) (iI (clV N Ls f v s).2) (iI (s : Int)) (iI (clN N Ls f s r)) (iI (r : Int)) (iI (clH N f r)) (bI (decide (clB N f r = 1))) c0 M2 = rec (B + 105, iI f, iI v, iI z, iI le, iI (clV N Ls f v s).2, iI (s : Int), c0, iI (clN N Ls f s (r + 1)), iI ((r + 1 : Nat) : Int), Mx)) → F_Mo_cleared_L63 n E S r47 rec (B + 105) (iI f) (iI v) (iI z) (iI le) (iI (clV N Ls f v s).2) (iI (s : Int)) (iI (if clC N f s r = true then 1 else 0)) (iI (clN N Ls f s r)) (iI (r : Int)) M2 = rec (B + 105, iI f, iI v, iI z, iI le, iI (clV N Ls f v s).2, iI (s : Int), iI (if clC N f s (r + 1) = true then 1 else 0), iI (clN N Ls f s (r + 1)), iI ((r + 1 : Nat) : Int), Mx) := fun r47 rec Mx hb => by
        have ec : clC N f s (r + 1) = if s / 2 ^ r % 2 = 1 ∧ clB N f r = 0 then false else clC N f s r := rfl
        unfold F_Mo_cleared_L63 F_Mo_cleared_b129 F_Mo_cleared_b125
        rw [ec, iL4, if_neg (cleF (by omega) (by omega) (by omega)), hS.g105_3, obs, iL8, iI_add, hS.r107 (by omega) (by omega), obs, hM2.2.1.turn (by omega) (by omega), Int.toNat_natCast, eH, obs, iL44, iI_add, hS.r107 (by omega) (by omega), obs, hM2.2.1.blk (by omega) (by omega), Int.toNat_natCast, s_is hN hr hh.1 hh.2, obs, show N 1 (8 * r + (clH N f r).toNat) = clB N f r from rfl, iL0]
        by_cases c1 : clC N f s r = true
        · rw [if_pos c1, if_neg (show ¬ iI 1 = iI 0 by decide)]
          rcases hbb with q | q
          · rw [if_pos (show bI (decide (clB N f r = 1)) = iI 0 from by rw [q]; rfl), eis, obs]
            by_cases c2 : s / 2 ^ r % 2 = 1
            · rw [if_pos (show (decide (s / 2 ^ r % 2 = 1), M2).1 = true from decide_eq_true c2), if_pos (show s / 2 ^ r % 2 = 1 ∧ clB N f r = 0 from ⟨c2, q⟩), if_neg (by decide)]
              exact hb 0
            · rw [if_neg (show ¬ (decide (s / 2 ^ r % 2 = 1), M2).1 = true from fun w => c2 (of_decide_eq_true w)), if_neg (show ¬ (s / 2 ^ r % 2 = 1 ∧ clB N f r = 0) from fun w => c2 w.1), if_pos c1]
              exact hb 1
          · rw [if_neg (show ¬ bI (decide (clB N f r = 1)) = iI 0 from by rw [q]; decide), if_neg (show ¬ (s / 2 ^ r % 2 = 1 ∧ clB N f r = 0) from fun w => by omega), if_pos c1]
            exact hb 1
        · have e0 : (if (if s / 2 ^ r % 2 = 1 ∧ clB N f r = 0 then false else clC N f s r) = true then (1 : Int) else 0) = 0 := by
            by_cases w : s / 2 ^ r % 2 = 1 ∧ clB N f r = 0
            · rw [if_pos w, if_neg (by decide)]
            · rw [if_neg w, if_neg c1]
          rw [if_neg c1, if_pos rfl, e0]
          exact hb 0
      by_cases d : clB N f r = 0 ∨ s / 2 ^ r % 2 = 1
      · refine ⟨(B + 105, iI f, iI v, iI z, iI le, iI (clV N Ls f v s).2, iI (s : Int), iI (if clC N f s (r + 1) = true then 1 else 0), iI (clN N Ls f s (r + 1)), iI ((r + 1 : Nat) : Int), M3), ⟨M3, rfl, hA2.trans hA3⟩, fun r47 rec => ?_⟩
        refine pre r47 rec M3 (fun c0 => ?_)
        have en : clN N Ls f s (r + 1) = clN N Ls f s r + clW N Ls f r := by
          show clN N Ls f s r + (if clB N f r = 0 ∨ s / 2 ^ r % 2 = 1 then clW N Ls f r else 0) = _
          rw [if_pos d]
        have b149 : F_Mo_cleared_b149 n E S r47 rec (B + 105) (iI f) (iI v) (iI z) (iI le) (iI (clV N Ls f v s).2) (iI (s : Int)) c0 (iI (r : Int)) (iI (clH N f r)) (iI (clN N Ls f s r)) M2 = rec (B + 105, iI f, iI v, iI z, iI le, iI (clV N Ls f v s).2, iI (s : Int), c0, iI (clN N Ls f s (r + 1)), iI ((r + 1 : Nat) : Int), M3) := by
          unfold F_Mo_cleared_b149 F_Mo_cleared_b162
          rw [hS.ck105, obs, e3, obs, iL1, iI_add (r : Int) 1, iI_add, en]
          rfl
        unfold F_Mo_cleared_b130
        rw [iL0]
        rcases hbb with q | q
        · rw [if_pos (show bI (decide (clB N f r = 1)) = iI 0 from by rw [q]; rfl)]; exact b149
        · have c2 : s / 2 ^ r % 2 = 1 := by omega
          rw [if_neg (show ¬ bI (decide (clB N f r = 1)) = iI 0 from by rw [q]; decide), eis, obs, if_pos (show (decide (s / 2 ^ r % 2 = 1), M2).1 = true from decide_eq_true c2)]; exact b149
      · refine ⟨(B + 105, iI f, iI v, iI z, iI le, iI (clV N Ls f v s).2, iI (s : Int), iI (if clC N f s (r + 1) = true then 1 else 0), iI (clN N Ls f s (r + 1)), iI ((r + 1 : Nat) : Int), M2), ⟨M2, rfl, hA2⟩, fun r47 rec => ?_⟩
        refine pre r47 rec M2 (fun c0 => ?_)
        have en : clN N Ls f s (r + 1) = clN N Ls f s r := by
          show clN N Ls f s r + (if clB N f r = 0 ∨ s / 2 ^ r % 2 = 1 then clW N Ls f r else 0) = _
          rw [if_neg d, Int.add_zero]
        have q : clB N f r = 1 := by omega
        have c2 : ¬ s / 2 ^ r % 2 = 1 := fun w => d (Or.inr w)
        unfold F_Mo_cleared_b130 F_Mo_cleared_b162
        rw [iL0, if_neg (show ¬ bI (decide (clB N f r = 1)) = iI 0 from by rw [q]; decide), eis, obs, if_neg (show ¬ (decide (s / 2 ^ r % 2 = 1), M2).1 = true from fun w => c2 (of_decide_eq_true w)), iL1, iI_add (r : Int) 1, iI_add, en, Int.add_zero]
        rfl) n 0 (B + 105, iI f, iI v, iI z, iI le, iI (clV N Ls f v s).2, iI (s : Int), 1, 0, 0, M1) (by omega) (by omega) ⟨M1, rfl, hA1⟩
    have hnb : 0 ≤ clN N Ls f s 4 ∧ clN N Ls f s 4 ≤ 99 * ((4 : Nat) : Int) := sum_b (fun r hr => by have := clW_b (Ls := Ls) hN hr hf0 hf; split <;> omega) 4 (by omega)
    refine ⟨(B + 105, iI f, iI v, iI z, iI (if (clV N Ls f v (s + 1)).1 ≤ 4 then (clV N Ls f v (s + 1)).1 else 100000000), iI (clV N Ls f v (s + 1)).2, iI ((s + 1 : Nat) : Int), M2), ⟨M2, rfl, hA2⟩, fun rec => ?_⟩
    show F_Mo_cleared_L47 n E S rec (B + 105) (iI f) (iI v) (iI z) (iI le) (iI (clV N Ls f v s).2) (iI (s : Int)) M1 = _
    unfold F_Mo_cleared_L47 F_Mo_cleared_b63
    obtain ⟨w, e5⟩ := e2 rec
    rw [iL16, if_neg (cleF (by omega) (by omega) (by omega))]
    refine e5.trans ?_
    rw [hs2]
    show F_Mo_cleared_L63 n E S rec _ (B + 105) (iI f) (iI v) (iI z) (iI le) (iI (clV N Ls f v s).2) (iI (s : Int)) (iI (if clC N f s 4 = true then 1 else 0)) (iI (clN N Ls f s 4)) (iI ((4 : Nat) : Int)) M2 = _
    have z0 : F_Mo_cleared_b197 n E S rec (B + 105) (iI f) (iI v) (iI z) (iI le) (iI (clV N Ls f v s).2) (iI (s : Int)) 0 M2 = rec (B + 105, iI f, iI v, iI z, iI le, iI (clV N Ls f v s).2, iI ((s + 1 : Nat) : Int), M2) := by
      unfold F_Mo_cleared_b197 F_Mo_cleared_b211 F_Mo_cleared_b228
      rw [if_pos rfl, if_pos rfl, iL1, iI_add]; rfl
    have z1 : F_Mo_cleared_b197 n E S rec (B + 105) (iI f) (iI v) (iI z) (iI le) (iI (clV N Ls f v s).2) (iI (s : Int)) 1 M2 = rec (B + 105, iI f, iI v, iI z, iI (onS s), iI (s : Int), iI ((s + 1 : Nat) : Int), M2) := by
      unfold F_Mo_cleared_b197 F_Mo_cleared_b211 F_Mo_cleared_b228
      rw [if_neg (show ¬ (1 : Int32) = 0 by decide), if_neg (show ¬ (1 : Int32) = 0 by decide), s_onesS hs (by omega), obs, iL1, iI_add]; rfl
    unfold F_Mo_cleared_L63 F_Mo_cleared_b196
    rw [iL4, if_pos (cleT (by omega) (by omega) (by omega)), iL0]
    by_cases d : clC N f s 4 = true ∧ v ≤ clN N Ls f s 4 ∧ onS s < (clV N Ls f v s).1
    · have hll := hl.2.2.mpr d.2.2
      rw [if_pos d.1, if_neg (show ¬ iI 1 = iI 0 by decide), if_neg (cltF (by omega) (by omega) (by omega)), s_onesS hs (by omega), obs, if_neg (cleF (by omega) (by omega) (by omega)), cl_p d]
      dsimp only
      rw [if_pos (show onS s ≤ 4 by omega)]
      exact z1
    · rw [cl_n d, hle]
      by_cases d1 : clC N f s 4 = true
      · rw [if_pos d1, if_neg (show ¬ iI 1 = iI 0 by decide)]
        by_cases d2 : v ≤ clN N Ls f s 4
        · have d3 : ¬ onS s < le := fun q => d ⟨d1, d2, hl.2.2.mp q⟩
          rw [if_neg (cltF (by omega) (by omega) (by omega)), s_onesS hs (by omega), obs, if_pos (cleT (by omega) (by omega) (by omega))]; exact z0
        · rw [if_pos (cltT (by omega) (by omega) (by omega))]; exact z0
      · rw [if_neg d1, if_pos rfl]; exact z0) n 0 (B + 105, iI f, iI v, iI z, 100000000, -1, 0, M) (by omega) (by omega) ⟨M, rfl, zAg.rfl'⟩
  have hvb := clV_b (N := N) (Ls := Ls) (f := f) (v := v) 16 (by omega)
  refine ⟨M1, ?_, hA1⟩
  refine e1.trans ?_
  rw [hs1]
  show F_Mo_cleared_L47 n E S _ (B + 105) (iI f) (iI v) (iI z) (iI (if (clV N Ls f v 16).1 ≤ 4 then (clV N Ls f v 16).1 else 100000000)) (iI (clV N Ls f v 16).2) (iI ((16 : Nat) : Int)) M1 = _
  unfold F_Mo_cleared_L47 F_Mo_cleared_b247
  rw [iL16, if_pos (cleT (by omega) (by omega) (by omega)), iL1, iI_neg]
  by_cases d : (clV N Ls f v 16).1 ≤ 4
  · have hne : (clV N Ls f v 16).2 ≠ -1 := fun q => by have := hvb.2.2.mpr q; omega
    rw [if_pos d, if_pos d, if_neg (ceqF hne (by omega) (by omega) (by omega) (by omega))]
    by_cases d2 : z = 0
    · rw [if_neg (ceqF (by omega) (by omega) (by omega) (by omega) (by omega)), if_pos d2]
    · rw [if_pos (ceqT (by omega)), if_neg d2]
  · have he : (clV N Ls f v 16).2 = -1 := hvb.2.2.mp (by omega)
    rw [if_neg d, if_neg d, if_pos (ceqT he), he]
theorem c_cleared (h : Inv S M B) (hn : 100000 ≤ n) {x y z : Int} (hx : zR x) (hy : zR y) (hz : zR z) : Ag1 S B M (fun M => F_NC_cleared n E S (B + 0) (iI x) (iI y) (iI z) M) (fun M => F_Mo_cleared n E S (B + 105) (iI x) (iI y) (iI z) M) := by
  have hS := h.1
  refine Ag1.qr h (fun N Ls => iI (clearedV N Ls x y z)) (fun N Ls hC hh => ?_) (fun M N Ls hM hh => ?_)
  · show ∃ M', F_NC_cleared n E S (B + 0) (iI x) (iI y) (iI z) M = _ ∧ _
    unfold F_NC_cleared clearedV
    rw [s_isField hx, obs]
    by_cases c1 : 0 ≤ x ∧ x ≤ 7
    · rw [if_pos (decide_eq_true c1), s_w400 hy, obs]
      by_cases c2 : 0 ≤ y ∧ y ≤ 400
      · rw [if_pos (decide_eq_true c2), s_w01 hz, obs]
        by_cases c3 : 0 ≤ z ∧ z ≤ 1
        · obtain ⟨M1, e1, h8, h9, hA1⟩ := cleared_c (n := n) (E := E) hS hC hn c1.1 (show x < 8 by omega) c2.1 c2.2
          rw [if_pos (decide_eq_true c3), if_pos (show (0 ≤ x ∧ x ≤ 7) ∧ (0 ≤ y ∧ y ≤ 400) ∧ (0 ≤ z ∧ z ≤ 1) from ⟨c1, c2, c3⟩), hS.g0_12, obs, hS.g0_0, obs, hS.ck85, obs, e1, obs]
          by_cases d : (clV N Ls x y 16).1 ≤ 4
          · rw [if_pos (show (decide ((clV N Ls x y 16).1 ≤ 4), M1).1 = true from decide_eq_true d), if_pos d, hS.i85, obs, hS.i85, obs, h8, h9 d, iL0]
            by_cases d2 : z = 0
            · rw [if_pos (ceqT d2), if_pos d2]; exact ⟨M1, rfl, hA1⟩
            · rw [if_neg (ceqF d2 (by omega) (by omega) (by omega) (by omega)), if_neg d2]; exact ⟨M1, rfl, hA1⟩
          · rw [if_neg (show ¬ (decide ((clV N Ls x y 16).1 ≤ 4), M1).1 = true from fun q => d (of_decide_eq_true q)), if_neg d]; exact ⟨M1, rfl, hA1⟩
        · rw [if_neg (fun q => c3 (of_decide_eq_true q)), if_neg (fun q => c3 q.2.2)]; exact ⟨M, rfl, zAg.rfl'⟩
      · rw [if_neg (fun q => c2 (of_decide_eq_true q)), if_neg (fun q => c2 q.2.1)]; exact ⟨M, rfl, zAg.rfl'⟩
    · rw [if_neg (fun q => c1 (of_decide_eq_true q)), if_neg (fun q => c1 q.1)]; exact ⟨M, rfl, zAg.rfl'⟩
  · show ∃ M', F_Mo_cleared n E S (B + 105) (iI x) (iI y) (iI z) M = _ ∧ _
    have hM0 := hM.mq (mQ_0 (M := M))
    unfold F_Mo_cleared clearedV
    rw [iL0, hS.p105, obs, s_mField hx, obs]
    by_cases c1 : 0 ≤ x ∧ x ≤ 7
    · rw [if_pos (decide_eq_true c1), s_in400 hy, obs]
      by_cases c2 : 0 ≤ y ∧ y ≤ 400
      · rw [if_pos (decide_eq_true c2), s_in01 hz, obs]
        by_cases c3 : 0 ≤ z ∧ z ≤ 1
        · obtain ⟨M1, e1, hA1⟩ := cleared_m (n := n) (E := E) hS hM0 hn c1.1 (show x < 8 by omega) c2.1 c2.2 c3.1 c3.2
          rw [if_pos (decide_eq_true c3), if_pos (show (0 ≤ x ∧ x ≤ 7) ∧ (0 ≤ y ∧ y ≤ 400) ∧ (0 ≤ z ∧ z ≤ 1) from ⟨c1, c2, c3⟩)]
          exact ⟨M1, e1, mP_0.trans (mP.q (mQ_m hA1))⟩
        · rw [if_neg (fun q => c3 (of_decide_eq_true q)), if_neg (fun q => c3 q.2.2)]; exact ⟨_, rfl, mP_0⟩
      · rw [if_neg (fun q => c2 (of_decide_eq_true q)), if_neg (fun q => c2 q.2.1)]; exact ⟨_, rfl, mP_0⟩
    · rw [if_neg (fun q => c1 (of_decide_eq_true q)), if_neg (fun q => c1 q.1)]; exact ⟨_, rfl, mP_0⟩
end
