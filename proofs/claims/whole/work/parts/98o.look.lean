/-! CASES (12): look -/
theorem orb : ∀ (m : Fin 256) (l : Fin 8), m.val < 2 ^ l.val → iI (m.val : Int) ||| iI (2 ^ l.val) = iI ((m.val : Int) + 2 ^ l.val) := by decide +kernel
theorem bitb : ∀ (m : Fin 256) (l : Fin 8), iI (m.val : Int) &&& iI (2 ^ l.val) = iI (((m.val : Int) / 2 ^ l.val % 2) * 2 ^ l.val) := by decide +kernel
theorem or_0 (x : Int32) : x ||| iI 0 = x := by rw [show iI 0 = (0 : Int32) from rfl]; exact Int32.or_zero
theorem or_00 : iI 0 ||| iI 0 = iI 0 := by decide
theorem or_01 : iI 0 ||| iI 1 = iI 1 := by decide
theorem or_10 : iI 1 ||| iI 0 = iI 1 := by decide
theorem or_11 : iI 1 ||| iI 1 = iI 1 := by decide
/-- how often each number of threads comes, the most -/
def lkV (N : Nt) (Ls : Nat → Lw) (f : Int) : Nat → (Int → Int) × Int
  | 0 => (fun _ => 0, 0)
  | s + 1 => if fitV N Ls s = true then (fun v => if v = thV N Ls s f then (lkV N Ls f s).1 v + 1 else (lkV N Ls f s).1 v, max (lkV N Ls f s).2 ((lkV N Ls f s).1 (thV N Ls s f) + 1)) else lkV N Ls f s
/-- the bits of the settings 8 t .. 8 t + l - 1 that fit -/
def bitG (N : Nt) (Ls : Nat → Lw) (t : Nat) : Nat → Int
  | 0 => 0
  | l + 1 => bitG N Ls t l + (if fitV N Ls (8 * t + l) = true then 2 ^ l else 0)
def fb (N : Nt) (Ls : Nat → Lw) (s : Nat) : Int := if fitV N Ls s = true then 1 else 0
def anyG (N : Nt) (Ls : Nat → Lw) : Nat → Int
  | 0 => 0
  | t + 1 => if bitG N Ls t 8 = 0 then anyG N Ls t else 1
def lbV (N : Nt) (Ls : Nat → Lw) (K : Nat) : Nat → Int × Int
  | 0 => (4097, -1)
  | f + 1 => if (lkV N Ls (f : Int) K).2 < (lbV N Ls K f).1 then ((lkV N Ls (f : Int) K).2, (f : Int)) else lbV N Ls K f
section
variable {n : Nat} {E : zE} {S : zS} {M M' : zH} {B : Nat} {N N' : Nt} {Ls : Nat → Lw}
theorem lk_p {f : Int} {s : Nat} (h : fitV N Ls s = true) : lkV N Ls f (s + 1) = (fun v => if v = thV N Ls s f then (lkV N Ls f s).1 v + 1 else (lkV N Ls f s).1 v, max (lkV N Ls f s).2 ((lkV N Ls f s).1 (thV N Ls s f) + 1)) := if_pos h
theorem lk_n {f : Int} {s : Nat} (h : ¬ fitV N Ls s = true) : lkV N Ls f (s + 1) = lkV N Ls f s := if_neg h
theorem lk_b {f : Int} : ∀ s : Nat, (∀ v, 0 ≤ (lkV N Ls f s).1 v ∧ (lkV N Ls f s).1 v ≤ s) ∧ (0 ≤ (lkV N Ls f s).2 ∧ (lkV N Ls f s).2 ≤ s) := by
  intro s
  induction s with
  | zero => exact ⟨fun v => ⟨Int.le_refl 0, Int.le_refl 0⟩, ⟨Int.le_refl 0, Int.le_refl 0⟩⟩
  | succ s ih =>
    by_cases c : fitV N Ls s = true
    · rw [lk_p c]
      have h1 := ih.1 (thV N Ls s f)
      refine ⟨fun v => ?_, ?_⟩
      · have h2 := ih.1 v
        dsimp only
        split <;> omega
      · dsimp only; omega
    · rw [lk_n c]
      refine ⟨fun v => ?_, ?_⟩
      · have h2 := ih.1 v; omega
      · omega
theorem lk_0 {f : Int} : ∀ s : Nat, (lkV N Ls f s).2 = 0 ↔ ∀ q, q < s → ¬ fitV N Ls q = true := by
  intro s
  induction s with
  | zero => exact ⟨fun _ q hq => by omega, fun _ => rfl⟩
  | succ s ih =>
    by_cases c : fitV N Ls s = true
    · rw [lk_p c]
      have h1 := (lk_b (N := N) (Ls := Ls) (f := f) s).1 (thV N Ls s f)
      dsimp only
      constructor
      · intro h; omega
      · intro h; exact absurd c (h s (by omega))
    · rw [lk_n c, ih]
      constructor
      · intro h q hq
        by_cases e : q = s
        · rw [e]; exact c
        · exact h q (by omega)
      · intro h q hq; exact h q (by omega)
theorem bit_b {t : Nat} : ∀ l : Nat, 0 ≤ bitG N Ls t l ∧ bitG N Ls t l < 2 ^ l := by
  intro l
  induction l with
  | zero => exact ⟨Int.le_refl 0, by show (0 : Int) < 2 ^ 0; decide⟩
  | succ l ih =>
    show 0 ≤ bitG N Ls t l + (if fitV N Ls (8 * t + l) = true then 2 ^ l else 0) ∧ bitG N Ls t l + (if fitV N Ls (8 * t + l) = true then 2 ^ l else 0) < 2 ^ (l + 1)
    rw [Int.pow_succ]
    split <;> omega
theorem bit_8 {t : Nat} : bitG N Ls t 8 = fb N Ls (8 * t + 0) + 2 * fb N Ls (8 * t + 1) + 4 * fb N Ls (8 * t + 2) + 8 * fb N Ls (8 * t + 3) + 16 * fb N Ls (8 * t + 4) + 32 * fb N Ls (8 * t + 5) + 64 * fb N Ls (8 * t + 6) + 128 * fb N Ls (8 * t + 7) := by
  have e : ∀ l, (if fitV N Ls (8 * t + l) = true then (2 : Int) ^ l else 0) = 2 ^ l * fb N Ls (8 * t + l) := fun l => by
    unfold fb
    split
    · rw [Int.mul_one]
    · rw [Int.mul_zero]
  show 0 + (if fitV N Ls (8 * t + 0) = true then (2 : Int) ^ 0 else 0) + (if fitV N Ls (8 * t + 1) = true then (2 : Int) ^ 1 else 0) + (if fitV N Ls (8 * t + 2) = true then (2 : Int) ^ 2 else 0) + (if fitV N Ls (8 * t + 3) = true then (2 : Int) ^ 3 else 0) + (if fitV N Ls (8 * t + 4) = true then (2 : Int) ^ 4 else 0) + (if fitV N Ls (8 * t + 5) = true then (2 : Int) ^ 5 else 0) + (if fitV N Ls (8 * t + 6) = true then (2 : Int) ^ 6 else 0) + (if fitV N Ls (8 * t + 7) = true then (2 : Int) ^ 7 else 0) = _
  rw [e 0, e 1, e 2, e 3, e 4, e 5, e 6, e 7]
  omega
theorem fb_b (s : Nat) : 0 ≤ fb N Ls s ∧ fb N Ls s ≤ 1 := by unfold fb; split <;> omega
theorem bit_t {t l : Nat} (hl : l < 8) : bitG N Ls t 8 / 2 ^ l % 2 = fb N Ls (8 * t + l) := by
  rw [bit_8]
  have h0 := fb_b (N := N) (Ls := Ls) (8 * t + 0)
  have h1 := fb_b (N := N) (Ls := Ls) (8 * t + 1)
  have h2 := fb_b (N := N) (Ls := Ls) (8 * t + 2)
  have h3 := fb_b (N := N) (Ls := Ls) (8 * t + 3)
  have h4 := fb_b (N := N) (Ls := Ls) (8 * t + 4)
  have h5 := fb_b (N := N) (Ls := Ls) (8 * t + 5)
  have h6 := fb_b (N := N) (Ls := Ls) (8 * t + 6)
  have h7 := fb_b (N := N) (Ls := Ls) (8 * t + 7)
  rcases (show l = 0 ∨ l = 1 ∨ l = 2 ∨ l = 3 ∨ l = 4 ∨ l = 5 ∨ l = 6 ∨ l = 7 by omega) with rfl | rfl | rfl | rfl | rfl | rfl | rfl | rfl <;> omega
theorem any_b : ∀ t : Nat, anyG N Ls t = 0 ∨ anyG N Ls t = 1 := by
  intro t
  induction t with
  | zero => exact Or.inl rfl
  | succ t ih =>
    show (if bitG N Ls t 8 = 0 then anyG N Ls t else 1) = 0 ∨ (if bitG N Ls t 8 = 0 then anyG N Ls t else 1) = 1
    split
    · exact ih
    · exact Or.inr rfl
theorem bit_0 {t : Nat} : bitG N Ls t 8 = 0 ↔ ∀ l, l < 8 → ¬ fitV N Ls (8 * t + l) = true := by
  constructor
  · intro h l hl c
    have e := bit_t (N := N) (Ls := Ls) (t := t) hl
    rw [h, Int.zero_ediv] at e
    unfold fb at e
    rw [if_pos c] at e
    exact absurd e (by decide)
  · intro h
    rw [bit_8]
    have z : ∀ l, l < 8 → fb N Ls (8 * t + l) = 0 := fun l hl => if_neg (h l hl)
    rw [z 0 (by omega), z 1 (by omega), z 2 (by omega), z 3 (by omega), z 4 (by omega), z 5 (by omega), z 6 (by omega), z 7 (by omega)]
    decide
theorem any_0 : ∀ t : Nat, anyG N Ls t = 0 ↔ ∀ q, q < 8 * t → ¬ fitV N Ls q = true := by
  intro t
  induction t with
  | zero => exact ⟨fun _ q hq => by omega, fun _ => rfl⟩
  | succ t ih =>
    by_cases c : bitG N Ls t 8 = 0
    · have e : anyG N Ls (t + 1) = anyG N Ls t := if_pos c
      rw [e, ih]
      constructor
      · intro h q hq
        by_cases d : q < 8 * t
        · exact h q d
        · have := bit_0.mp c (q - 8 * t) (by omega)
          rw [show 8 * t + (q - 8 * t) = q by omega] at this
          exact this
      · intro h q hq; exact h q (by omega)
    · have e : anyG N Ls (t + 1) = 1 := if_neg c
      rw [e]
      constructor
      · intro h; omega
      · intro h; exact absurd (bit_0.mpr (fun l hl => h (8 * t + l) (by omega))) c
theorem s_fitting {D : Nat} (hD : D = 512) (hS : ShOK S B) (hC : CN S M B (B + 1) N Ls) (hn : 100000 ≤ n) : ∃ M', F_Pa_findFitting n E S (B + 85) (B + 1) M = some (decide (anyG N Ls D = 1), M') ∧ (∀ q, q < 256 → mI M' (B + 98) q = iI (shQ N Ls q)) ∧ (∀ t, t < 512 → mI M' (B + 101) t = iI (bitG N Ls t 8)) ∧ zAg (cQ B) M M' := by
  obtain ⟨M1, e1, hsh1, hA1⟩ := s_shares (n := n) (E := E) hS hC (by omega)
  unfold F_Pa_findFitting F_Pa_findFitting_b9
  rw [hS.ck85, obs, e1, obs]
  obtain ⟨s', m, ⟨M2, hs', h2, hA2⟩, e⟩ := zfix_inv (F := fun r9 s => F_Pa_findFitting_L9 n E S r9 s.1 s.2.1 s.2.2.1 s.2.2.2.1 s.2.2.2.2) (fun t s => ∃ M2, s = (B + 85, B + 1, iI (anyG N Ls t), iI (t : Int), M2) ∧ (∀ j, j < t → mI M2 (B + 101) j = iI (bitG N Ls j 8)) ∧ zAg (fun b j => b = B + 101) M1 M2) D (fun t ht s hI' => by
    obtain ⟨M2, rfl, h2, hA2⟩ := hI'
    have hA2' : zAg (cQ B) M M2 := hA1.trans (hA2.mono (fun b j q => by unfold cQ; omega))
    have hC2 := hC.cq hA2'
    have hsh2 : ∀ q, q < 256 → mI M2 (B + 98) q = iI (shQ N Ls q) := fun q hq => by rw [(hA2 _ _ (by omega)).1]; exact hsh1 q hq
    obtain ⟨s3, hs3, e3⟩ := zfix_inv2 (F := fun r9 r24 s => F_Pa_findFitting_L24 n E S r9 r24 s.1 s.2.1 s.2.2.1 s.2.2.2.1 s.2.2.2.2.1 s.2.2.2.2.2.1 s.2.2.2.2.2.2) (fun l s => s = (B + 85, B + 1, iI (anyG N Ls t), iI (t : Int), iI (bitG N Ls t l), iI (l : Int), M2)) 8 (fun l hl s hI' => by
      subst hI'
      have hb := bit_b (N := N) (Ls := Ls) (t := t) l
      have hp : (2 : Int) ^ l ≤ 256 := by
        rcases (show l = 0 ∨ l = 1 ∨ l = 2 ∨ l = 3 ∨ l = 4 ∨ l = 5 ∨ l = 6 ∨ l = 7 by omega) with rfl | rfl | rfl | rfl | rfl | rfl | rfl | rfl <;> decide
      refine ⟨_, rfl, fun r9 rec => ?_⟩
      show F_Pa_findFitting_L24 n E S r9 rec (B + 85) (B + 1) (iI (anyG N Ls t)) (iI (t : Int)) (iI (bitG N Ls t l)) (iI (l : Int)) M2 = rec (B + 85, B + 1, iI (anyG N Ls t), iI (t : Int), iI (bitG N Ls t l + (if fitV N Ls (8 * t + l) = true then 2 ^ l else 0)), iI ((l + 1 : Nat) : Int), M2)
      have ef := s_fits (n := n) (E := E) hS hC2 hsh2 (by omega) (s := 8 * t + l) (by omega)
      rw [show ((8 * t + l : Nat) : Int) = (t : Int) * 8 + (l : Int) by omega] at ef
      unfold F_Pa_findFitting_L24 F_Pa_findFitting_b56
      rw [iL8, if_neg (cleF (by omega) (by omega) (by omega)), hS.ck85, obs, iI_mul, iI_add, ef, obs]
      by_cases c : fitV N Ls (8 * t + l) = true
      · have xo := orb ⟨(bitG N Ls t l).toNat, by omega⟩ ⟨l, hl⟩ (by
          show (bitG N Ls t l).toNat < 2 ^ l
          have h2 := hb.2
          have : ((2 ^ l : Nat) : Int) = (2 : Int) ^ l := by rw [Int.natCast_pow]; rfl
          omega)
        dsimp only at xo
        rw [show (((bitG N Ls t l).toNat : Nat) : Int) = bitG N Ls t l by omega] at xo
        rw [if_pos (show (fitV N Ls (8 * t + l), M2).1 = true from c), if_pos c, iL1, iL31, xshl (by omega) (by omega), Int.one_mul, Int.toNat_natCast, xo, iI_add]
        rfl
      · rw [if_neg (show ¬ (fitV N Ls (8 * t + l), M2).1 = true from c), if_neg c, iL0, or_0, Int.add_zero, iL1, iI_add]
        rfl) n 0 (B + 85, B + 1, iI (anyG N Ls t), iI (t : Int), iI 0, iI 0, M2) (by omega) (by omega) rfl
    refine ⟨(B + 85, B + 1, iI (anyG N Ls (t + 1)), iI ((t + 1 : Nat) : Int), setI M2 (B + 101) t (iI (bitG N Ls t 8))), ⟨_, rfl, fun j hj => ?_, hA2.setI rfl⟩, fun rec => ?_⟩
    · rw [mI_ite]
      by_cases c : j = t
      · rw [if_pos ⟨rfl, c⟩, c]
      · rw [if_neg (fun q => c q.2), h2 j (by omega)]
    · show F_Pa_findFitting_L9 n E S rec (B + 85) (B + 1) (iI (anyG N Ls t)) (iI (t : Int)) M2 = rec (B + 85, B + 1, iI (if bitG N Ls t 8 = 0 then anyG N Ls t else 1), iI ((t + 1 : Nat) : Int), setI M2 (B + 101) t (iI (bitG N Ls t 8)))
      unfold F_Pa_findFitting_L9 F_Pa_findFitting_b24
      obtain ⟨w, e5⟩ := e3 rec
      rw [hS.g85_5, obs, hS.l101, obs, if_neg (cleF (by omega) (by omega) (by omega))]
      refine e5.trans ?_
      rw [hs3]
      show F_Pa_findFitting_L24 n E S rec _ (B + 85) (B + 1) (iI (anyG N Ls t)) (iI (t : Int)) (iI (bitG N Ls t 8)) (iI ((8 : Nat) : Int)) M2 = _
      have hb := bit_b (N := N) (Ls := Ls) (t := t) 8
      have hb2 : bitG N Ls t 8 < 256 := hb.2
      unfold F_Pa_findFitting_L24 F_Pa_findFitting_b84
      rw [iL8, if_pos (cleT (by omega) (by omega) (by omega)), hS.g85_5, obs, hS.w101 (by omega) (by omega), obs, Int.toNat_natCast, iL0, iL1, iI_add]
      by_cases c : bitG N Ls t 8 = 0
      · rw [if_pos (ceqT c), if_pos c, or_0]; rfl
      · rw [if_neg (ceqF c (by omega) (by omega) (by omega) (by omega)), if_neg c]
        rcases any_b (N := N) (Ls := Ls) t with q | q
        · rw [q, or_01]; rfl
        · rw [q, or_11]; rfl) n 0 (B + 85, B + 1, 0, 0, M1) (by omega) (by omega) ⟨M1, rfl, fun j hj => by omega, zAg.rfl'⟩
  refine ⟨M2, ?_, fun q hq => by rw [(hA2 _ _ (by omega)).1]; exact hsh1 q hq, fun j hj => h2 j (by omega), hA1.trans (hA2.mono (fun b j q => by unfold cQ; omega))⟩
  refine e.trans ?_
  rw [hs']
  show F_Pa_findFitting_L9 n E S _ (B + 85) (B + 1) (iI (anyG N Ls D)) (iI (D : Int)) M2 = _
  unfold F_Pa_findFitting_L9
  rw [hS.g85_5, obs, hS.l101, obs, if_pos (cleT (by omega) (by omega) (by omega))]
  rcases any_b (N := N) (Ls := Ls) D with q | q
  · rw [q, zbl0, obs]; rfl
  · rw [q, zbl1, obs]; rfl
theorem th_3 {t l : Nat} (ht : t < 512) (hl : l < 8) {f : Int} : thV N Ls (8 * t + l) f = shV N Ls 0 ((t / 64 % 8 : Nat) : Int) f + shV N Ls 1 ((t / 8 % 8 : Nat) : Int) f + shV N Ls 2 ((t % 8 : Nat) : Int) f + shV N Ls 3 (l : Int) f := by
  unfold thV
  rw [show (8 * t + l) / 512 % 8 = t / 64 % 8 by omega, show (8 * t + l) / 64 % 8 = t / 8 % 8 by omega, show (8 * t + l) / 8 % 8 = t % 8 by omega, show (8 * t + l) % 8 = l by omega]
theorem lk_skip {t : Nat} {f : Int} (h : bitG N Ls t 8 = 0) : lkV N Ls f (8 * (t + 1)) = lkV N Ls f (8 * t) := by
  have z := bit_0.mp h
  rw [show 8 * (t + 1) = 8 * t + 7 + 1 by omega, lk_n (z 7 (by omega)), show 8 * t + 7 = 8 * t + 6 + 1 by omega, lk_n (z 6 (by omega)), show 8 * t + 6 = 8 * t + 5 + 1 by omega, lk_n (z 5 (by omega)), show 8 * t + 5 = 8 * t + 4 + 1 by omega, lk_n (z 4 (by omega)), show 8 * t + 4 = 8 * t + 3 + 1 by omega, lk_n (z 3 (by omega)), show 8 * t + 3 = 8 * t + 2 + 1 by omega, lk_n (z 2 (by omega)), show 8 * t + 2 = 8 * t + 1 + 1 by omega, lk_n (z 1 (by omega)), lk_n (z 0 (by omega)), Nat.add_zero]
theorem s_alike {D : Nat} (hD : D = 512) (hS : ShOK S B) (hN : NdOK N) (hsh : ∀ q, q < 256 → mI M (B + 98) q = iI (shQ N Ls q)) (hfit : ∀ t, t < 512 → mI M (B + 101) t = iI (bitG N Ls t 8)) (hn : 100000 ≤ n) {f : Nat} (hf : f < 8) : ∃ M', F_Pa_mostAlike n E S (B + 85) (iI (f : Int)) M = some (iI (lkV N Ls (f : Int) (8 * D)).2, M') ∧ zAg (fun b j => b = B + 102) M M' := by
  unfold F_Pa_mostAlike F_Pa_mostAlike_b12
  obtain ⟨M1, e1, h1, hA1⟩ := s_fillI (n := n) (E := E) (M := M) (q := B + 102) (L := 401) (v := 0) (hS.k 102 (by decide)) (hS.n 102 (by decide)) (by decide) (by omega)
  rw [hS.g85_6, obs, e1, obs]
  obtain ⟨s', m, ⟨M2, hs', h2, hA2⟩, e⟩ := zfix_inv (F := fun r12 s => F_Pa_mostAlike_L12 n E S r12 s.1 s.2.1 s.2.2.1 s.2.2.2.1 s.2.2.2.2) (fun t s => ∃ M2, s = (B + 85, iI (f : Int), iI (lkV N Ls (f : Int) (8 * t)).2, iI (t : Int), M2) ∧ (∀ v : Nat, v < 401 → mI M2 (B + 102) v = iI ((lkV N Ls (f : Int) (8 * t)).1 (v : Int))) ∧ zAg (fun b j => b = B + 102) M M2) D (fun t ht s hI' => by
    obtain ⟨M2, rfl, h2, hA2⟩ := hI'
    have hsh2 : ∀ q, q < 256 → mI M2 (B + 98) q = iI (shQ N Ls q) := fun q hq => by rw [(hA2 _ _ (by omega)).1]; exact hsh q hq
    have hfi2 : mI M2 (B + 101) t = iI (bitG N Ls t 8) := by rw [(hA2 _ _ (by omega)).1]; exact hfit t (by omega)
    have hb := bit_b (N := N) (Ls := Ls) (t := t) 8
    have hb2 : bitG N Ls t 8 < 256 := hb.2
    by_cases c0 : bitG N Ls t 8 = 0
    · refine ⟨(B + 85, iI (f : Int), iI (lkV N Ls (f : Int) (8 * (t + 1))).2, iI ((t + 1 : Nat) : Int), M2), ⟨M2, rfl, by rw [lk_skip c0]; exact h2, hA2⟩, fun rec => ?_⟩
      show F_Pa_mostAlike_L12 n E S rec (B + 85) (iI (f : Int)) (iI (lkV N Ls (f : Int) (8 * t)).2) (iI (t : Int)) M2 = _
      unfold F_Pa_mostAlike_L12 F_Pa_mostAlike_b125
      rw [hS.g85_5, obs, hS.l101, obs, if_neg (cleF (by omega) (by omega) (by omega)), hS.r101 (by omega) (by omega), obs, Int.toNat_natCast, hfi2, iL0, if_pos (ceqT c0), lk_skip c0, iL1, iI_add]
      rfl
    · obtain ⟨s3, ⟨M3, hs3, h3, hA3⟩, e3⟩ := zfix_inv2 (F := fun r12 r44 s => F_Pa_mostAlike_L44 n E S r12 r44 s.1 s.2.1 s.2.2.1 s.2.2.2.1 s.2.2.2.2.1 s.2.2.2.2.2.1 s.2.2.2.2.2.2) (fun l s => ∃ M3, s = (B + 85, iI (f : Int), iI (lkV N Ls (f : Int) (8 * t + l)).2, iI (t : Int), iI (shV N Ls 0 ((t / 64 % 8 : Nat) : Int) f + shV N Ls 1 ((t / 8 % 8 : Nat) : Int) f + shV N Ls 2 ((t % 8 : Nat) : Int) f), iI (l : Int), M3) ∧ (∀ v : Nat, v < 401 → mI M3 (B + 102) v = iI ((lkV N Ls (f : Int) (8 * t + l)).1 (v : Int))) ∧ zAg (fun b j => b = B + 102) M M3) 8 (fun l hl s hI' => by
        obtain ⟨M3, rfl, h3, hA3⟩ := hI'
        have hsh3 : ∀ q, q < 256 → mI M3 (B + 98) q = iI (shQ N Ls q) := fun q hq => by rw [(hA3 _ _ (by omega)).1]; exact hsh q hq
        have hfi3 : mI M3 (B + 101) t = iI (bitG N Ls t 8) := by rw [(hA3 _ _ (by omega)).1]; exact hfit t (by omega)
        have g3 := sh_rd (q := (192 + (l : Int) * 8 + (f : Int)).toNat) hsh3 3 l f (by omega) hl hf (by omega)
        have eth := th_3 (N := N) (Ls := Ls) (t := t) (l := l) (by omega) hl (f := (f : Int))
        have htb := thV_b (Ls := Ls) hN (s := 8 * t + l) (f := (f : Int)) (by omega) (by omega)
        have xb := bitb ⟨(bitG N Ls t 8).toNat, by omega⟩ ⟨l, hl⟩
        dsimp only at xb
        rw [show (((bitG N Ls t 8).toNat : Nat) : Int) = bitG N Ls t 8 by omega, bit_t hl] at xb
        have hlb := lk_b (N := N) (Ls := Ls) (f := (f : Int)) (8 * t + l)
        by_cases c : fitV N Ls (8 * t + l) = true
        · have efb : fb N Ls (8 * t + l) = 1 := if_pos c
          have hv := h3 (thV N Ls (8 * t + l) (f : Int)).toNat (by omega)
          rw [show (((thV N Ls (8 * t + l) (f : Int)).toNat : Nat) : Int) = thV N Ls (8 * t + l) (f : Int) by omega] at hv
          have hv1 := hlb.1 (thV N Ls (8 * t + l) (f : Int))
          refine ⟨(B + 85, iI (f : Int), iI (lkV N Ls (f : Int) (8 * t + (l + 1))).2, iI (t : Int), iI (shV N Ls 0 ((t / 64 % 8 : Nat) : Int) f + shV N Ls 1 ((t / 8 % 8 : Nat) : Int) f + shV N Ls 2 ((t % 8 : Nat) : Int) f), iI ((l + 1 : Nat) : Int), setI M3 (B + 102) (thV N Ls (8 * t + l) (f : Int)).toNat (iI ((lkV N Ls (f : Int) (8 * t + l)).1 (thV N Ls (8 * t + l) (f : Int)) + 1))), ⟨_, rfl, fun v hv => ?_, hA3.setI rfl⟩, fun r12 rec => ?_⟩
          · rw [show 8 * t + (l + 1) = 8 * t + l + 1 by omega, lk_p c]
            dsimp only
            rw [mI_ite]
            by_cases d : v = (thV N Ls (8 * t + l) (f : Int)).toNat
            · rw [if_pos ⟨rfl, d⟩, if_pos (by omega), show (v : Int) = thV N Ls (8 * t + l) (f : Int) by omega]
            · rw [if_neg (fun q => d q.2), if_neg (by omega)]; exact h3 v hv
          · show F_Pa_mostAlike_L44 n E S r12 rec (B + 85) (iI (f : Int)) (iI (lkV N Ls (f : Int) (8 * t + l)).2) (iI (t : Int)) (iI (shV N Ls 0 ((t / 64 % 8 : Nat) : Int) f + shV N Ls 1 ((t / 8 % 8 : Nat) : Int) f + shV N Ls 2 ((t % 8 : Nat) : Int) f)) (iI (l : Int)) M3 = _
            unfold F_Pa_mostAlike_L44 F_Pa_mostAlike_b119
            rw [iL8, if_neg (cleF (by omega) (by omega) (by omega)), hS.g85_2, obs, show (192 : Int32) = iI 192 by decide, iI_mul, iI_add, iI_add, hS.r98 (by omega) (by omega), obs, g3, hS.g85_5, obs, hS.r101 (by omega) (by omega), obs, Int.toNat_natCast, hfi3, iL1, iL31, xshl (by omega) (by omega), Int.one_mul, Int.toNat_natCast, xb, efb, Int.one_mul, iI_add (l : Int) 1, iI_add (shV N Ls 0 ((t / 64 % 8 : Nat) : Int) f + shV N Ls 1 ((t / 8 % 8 : Nat) : Int) f + shV N Ls 2 ((t % 8 : Nat) : Int) f) (shV N Ls ((3 : Nat) : Int) (l : Int) (f : Int)), show shV N Ls 0 ((t / 64 % 8 : Nat) : Int) f + shV N Ls 1 ((t / 8 % 8 : Nat) : Int) f + shV N Ls 2 ((t % 8 : Nat) : Int) f + shV N Ls ((3 : Nat) : Int) (l : Int) (f : Int) = thV N Ls (8 * t + l) (f : Int) from eth.symm]
            have hp : (0 : Int) < 2 ^ l ∧ (2 : Int) ^ l ≤ 256 := by
              rcases (show l = 0 ∨ l = 1 ∨ l = 2 ∨ l = 3 ∨ l = 4 ∨ l = 5 ∨ l = 6 ∨ l = 7 by omega) with rfl | rfl | rfl | rfl | rfl | rfl | rfl | rfl <;> decide
            rw [iL0, if_neg (ceqF (by omega) (by omega) (by omega) (by omega) (by omega)), hS.g85_6, obs, hS.l102, obs, if_neg (cleF (by omega) (by omega) (by omega)), hS.r102 (by omega) (by omega), obs, hv, iI_add, hS.w102 (by omega) (by omega), obs, hS.r102 (by omega) (by omega), obs, mI_s, s_maxI (zR_of (by omega) (by omega)) (zR_of (by omega) (by omega)), obs, show 8 * t + (l + 1) = 8 * t + l + 1 by omega, lk_p c]
            rfl
        · have efb : fb N Ls (8 * t + l) = 0 := if_neg c
          refine ⟨(B + 85, iI (f : Int), iI (lkV N Ls (f : Int) (8 * t + (l + 1))).2, iI (t : Int), iI (shV N Ls 0 ((t / 64 % 8 : Nat) : Int) f + shV N Ls 1 ((t / 8 % 8 : Nat) : Int) f + shV N Ls 2 ((t % 8 : Nat) : Int) f), iI ((l + 1 : Nat) : Int), M3), ⟨_, rfl, by rw [show 8 * t + (l + 1) = 8 * t + l + 1 by omega, lk_n c]; exact h3, hA3⟩, fun r12 rec => ?_⟩
          show F_Pa_mostAlike_L44 n E S r12 rec (B + 85) (iI (f : Int)) (iI (lkV N Ls (f : Int) (8 * t + l)).2) (iI (t : Int)) (iI (shV N Ls 0 ((t / 64 % 8 : Nat) : Int) f + shV N Ls 1 ((t / 8 % 8 : Nat) : Int) f + shV N Ls 2 ((t % 8 : Nat) : Int) f)) (iI (l : Int)) M3 = _
          unfold F_Pa_mostAlike_L44 F_Pa_mostAlike_b119
          rw [iL8, if_neg (cleF (by omega) (by omega) (by omega)), hS.g85_2, obs, show (192 : Int32) = iI 192 by decide, iI_mul, iI_add, iI_add, hS.r98 (by omega) (by omega), obs, g3, hS.g85_5, obs, hS.r101 (by omega) (by omega), obs, Int.toNat_natCast, hfi3, iL1, iL31, xshl (by omega) (by omega), Int.one_mul, Int.toNat_natCast, xb, efb, Int.zero_mul, iL0, if_pos rfl, iI_add, show 8 * t + (l + 1) = 8 * t + l + 1 by omega, lk_n c]
          rfl) n 0 (B + 85, iI (f : Int), iI (lkV N Ls (f : Int) (8 * t)).2, iI (t : Int), iI (shV N Ls 0 ((t / 64 % 8 : Nat) : Int) f + shV N Ls 1 ((t / 8 % 8 : Nat) : Int) f + shV N Ls 2 ((t % 8 : Nat) : Int) f), iI 0, M2) (by omega) (by omega) ⟨M2, rfl, h2, hA2⟩
      refine ⟨(B + 85, iI (f : Int), iI (lkV N Ls (f : Int) (8 * (t + 1))).2, iI ((t + 1 : Nat) : Int), M3), ⟨M3, rfl, by rw [show 8 * (t + 1) = 8 * t + 8 by omega]; exact h3, hA3⟩, fun rec => ?_⟩
      show F_Pa_mostAlike_L12 n E S rec (B + 85) (iI (f : Int)) (iI (lkV N Ls (f : Int) (8 * t)).2) (iI (t : Int)) M2 = _
      unfold F_Pa_mostAlike_L12 F_Pa_mostAlike_b44
      obtain ⟨w, e5⟩ := e3 rec
      rw [hS.g85_5, obs, hS.l101, obs, if_neg (cleF (by omega) (by omega) (by omega)), hS.r101 (by omega) (by omega), obs, Int.toNat_natCast, hfi2, iL0, if_neg (ceqF c0 (by omega) (by omega) (by omega) (by omega)), s_three hS hsh2 (by omega) hf, obs]
      refine e5.trans ?_
      rw [hs3]
      show F_Pa_mostAlike_L44 n E S rec _ (B + 85) (iI (f : Int)) (iI (lkV N Ls (f : Int) (8 * t + 8)).2) (iI (t : Int)) _ (iI ((8 : Nat) : Int)) M3 = _
      unfold F_Pa_mostAlike_L44 F_Pa_mostAlike_b125
      rw [iL8, if_pos (cleT (by omega) (by omega) (by omega)), iL1, iI_add, show 8 * t + 8 = 8 * (t + 1) by omega]
      rfl) n 0 (B + 85, iI (f : Int), 0, 0, M1) (by omega) (by omega) ⟨M1, rfl, fun v hv => h1 v hv, hA1.mono (fun b j q => q.1)⟩
  refine ⟨M2, ?_, hA2⟩
  refine e.trans ?_
  rw [hs']
  show F_Pa_mostAlike_L12 n E S _ (B + 85) (iI (f : Int)) (iI (lkV N Ls (f : Int) (8 * D)).2) (iI (D : Int)) M2 = _
  unfold F_Pa_mostAlike_L12
  rw [hS.g85_5, obs, hS.l101, obs, if_pos (cleT (by omega) (by omega) (by omega))]
theorem lb_p {K f : Nat} (h : (lkV N Ls (f : Int) K).2 < (lbV N Ls K f).1) : lbV N Ls K (f + 1) = ((lkV N Ls (f : Int) K).2, (f : Int)) := if_pos h
theorem lb_n {K f : Nat} (h : ¬ (lkV N Ls (f : Int) K).2 < (lbV N Ls K f).1) : lbV N Ls K (f + 1) = lbV N Ls K f := if_neg h
theorem lb_b {K : Nat} (hK : K = 4096) : ∀ f : Nat, (0 ≤ (lbV N Ls K f).1 ∧ (lbV N Ls K f).1 ≤ 4097) ∧ (-1 ≤ (lbV N Ls K f).2 ∧ (lbV N Ls K f).2 < f) ∧ ((lbV N Ls K f).2 = -1 → f = 0 ∧ (lbV N Ls K f).1 = 4097) ∧ ((lbV N Ls K f).2 ≠ -1 → (lbV N Ls K f).1 ≤ 4096) := by
  intro f
  induction f with
  | zero => exact ⟨⟨show (0 : Int) ≤ 4097 by decide, Int.le_refl 4097⟩, ⟨Int.le_refl (-1), show (-1 : Int) < ((0 : Nat) : Int) by decide⟩, fun _ => ⟨rfl, rfl⟩, fun q => absurd rfl q⟩
  | succ f ih =>
    have hb := (lk_b (N := N) (Ls := Ls) (f := (f : Int)) K).2
    by_cases c : (lkV N Ls (f : Int) K).2 < (lbV N Ls K f).1
    · rw [lb_p c]; dsimp only; omega
    · rw [lb_n c]
      obtain ⟨h1, h2, h3, h4⟩ := ih
      refine ⟨h1, by omega, fun q => ?_, h4⟩
      have := h3 q
      omega
def lookV (N : Nt) (Ls : Nat → Lw) (K : Nat) (x : Int) : Int := if 0 ≤ x ∧ x ≤ 1 then (if (lkV N Ls 0 K).2 = 0 then -1 else if x = 0 then (lbV N Ls K 8).2 else (lbV N Ls K 8).1) else -1
theorem look_c {K : Nat} (hK : K = 4096) (hS : ShOK S B) (hC : CN S M B (B + 1) N Ls) (hn : 100000 ≤ n) {x : Int} (hx : zR x) : ∃ M', F_NC_look n E S (B + 0) (iI x) M = some (iI (lookV N Ls K x), M') ∧ zAg (cQ B) M M' := by
  unfold F_NC_look lookV
  rw [s_w01 hx, obs]
  by_cases c : 0 ≤ x ∧ x ≤ 1
  · obtain ⟨D, hD⟩ : ∃ D, D = 512 := ⟨_, rfl⟩
    have hKD : K = 8 * D := by omega
    obtain ⟨M1, e1, hsh1, hfi1, hA1⟩ := s_fitting (n := n) (E := E) hD hS hC hn
    have hay : (anyG N Ls D = 0) ↔ (lkV N Ls 0 K).2 = 0 := by rw [any_0, lk_0, hKD]
    rw [if_pos (decide_eq_true c), if_pos c, hS.g0_12, obs, hS.g0_0, obs, hS.ck85, obs]
    unfold F_Pa_findLook
    rw [hS.ck85, obs, e1, obs]
    by_cases d : (lkV N Ls 0 K).2 = 0
    · have hz := hay.mpr d
      rw [if_pos d, if_neg (show ¬ (decide (anyG N Ls D = 1), M1).1 = true from fun q => by have := of_decide_eq_true q; omega), obs, if_neg (by simp)]
      exact ⟨M1, rfl, hA1⟩
    · have h1 : anyG N Ls D = 1 := by
        rcases any_b (N := N) (Ls := Ls) D with q | q
        · exact absurd (hay.mp q) d
        · exact q
      rw [if_neg d, if_pos (show (decide (anyG N Ls D = 1), M1).1 = true from decide_eq_true h1), hS.p85, obs]
      unfold F_Pa_findLook_b19
      obtain ⟨s', m, ⟨M2, hs', h8, h9, hA2⟩, e⟩ := zfix_inv (F := fun r19 s => F_Pa_findLook_L19 n E S r19 s.1 s.2.1 s.2.2) (fun f s => ∃ M2, s = (B + 85, iI (f : Int), M2) ∧ mI M2 (B + 85) 8 = iI (lbV N Ls K f).1 ∧ ((lbV N Ls K f).2 ≠ -1 → mI M2 (B + 85) 9 = iI (lbV N Ls K f).2) ∧ zAg (fun b j => b = B + 85 ∨ b = B + 102) M1 M2) 8 (fun f hf s hI' => by
        obtain ⟨M2, rfl, h8, h9, hA2⟩ := hI'
        obtain ⟨M3, e3, hA3⟩ := s_alike (n := n) (E := E) hD hS hC.2.1 (M := M2) (fun q hq => by rw [(hA2 _ _ (by omega)).1]; exact hsh1 q hq) (fun t ht => by rw [(hA2 _ _ (by omega)).1]; exact hfi1 t ht) hn hf
        rw [← hKD] at e3
        have hb := (lk_b (N := N) (Ls := Ls) (f := (f : Int)) K).2
        have hlb := lb_b (N := N) (Ls := Ls) hK f
        have h83 : mI M3 (B + 85) 8 = iI (lbV N Ls K f).1 := by rw [(hA3 _ _ (by omega)).1]; exact h8
        by_cases q : (lkV N Ls (f : Int) K).2 < (lbV N Ls K f).1
        · refine ⟨(B + 85, iI ((f + 1 : Nat) : Int), setI (setI M3 (B + 85) 8 (iI (lkV N Ls (f : Int) K).2)) (B + 85) 9 (iI (f : Int))), ⟨_, rfl, by rw [lb_p q, mI_i (by decide), mI_s], fun _ => by rw [lb_p q, mI_s], ((hA2.trans (hA3.mono (fun b j q => Or.inr q))).setI (Or.inl rfl)).setI (Or.inl rfl)⟩, fun rec => ?_⟩
          show F_Pa_findLook_L19 n E S rec (B + 85) (iI (f : Int)) M2 = _
          unfold F_Pa_findLook_L19 F_Pa_findLook_b49
          rw [iL8, if_neg (cleF (by omega) (by omega) (by omega)), hS.ck85, obs, e3, obs, hS.i85, obs, h83, if_neg (cleF (by omega) (by omega) (by omega)), hS.p85, obs, hS.p85, obs, iL1, iI_add]
          rfl
        · refine ⟨(B + 85, iI ((f + 1 : Nat) : Int), M3), ⟨_, rfl, by rw [lb_n q]; exact h83, fun z => by rw [lb_n q] at z ⊢; rw [(hA3 _ _ (by omega)).1]; exact h9 z, hA2.trans (hA3.mono (fun b j q => Or.inr q))⟩, fun rec => ?_⟩
          show F_Pa_findLook_L19 n E S rec (B + 85) (iI (f : Int)) M2 = _
          unfold F_Pa_findLook_L19 F_Pa_findLook_b49
          rw [iL8, if_neg (cleF (by omega) (by omega) (by omega)), hS.ck85, obs, e3, obs, hS.i85, obs, h83, if_pos (cleT (by omega) (by omega) (by omega)), iL1, iI_add]
          rfl) n 0 (B + 85, 0, setI M1 (B + 85) 8 4097) (by omega) (by omega) ⟨_, rfl, by rw [mI_s]; rfl, fun q => absurd rfl q, zAg.rfl'.setI (Or.inl rfl)⟩
      have hlb := lb_b (N := N) (Ls := Ls) hK 8
      have hne : (lbV N Ls K 8).2 ≠ -1 := fun q => by have := hlb.2.2.1 q; omega
      have hAq : zAg (cQ B) M M2 := hA1.trans (hA2.mono (fun b j q => by unfold cQ; omega))
      rw [e, hs']
      show ∃ M', (F_Pa_findLook_L19 n E S _ (B + 85) (iI ((8 : Nat) : Int)) M2).bind _ = _ ∧ _
      unfold F_Pa_findLook_L19
      rw [if_pos (by decide), obs, if_pos rfl, hS.i85, hS.i85, obs, obs, h8, h9 hne, iL0]
      by_cases d2 : x = 0
      · rw [if_pos (ceqT d2), if_pos d2]; exact ⟨M2, rfl, hAq⟩
      · rw [if_neg (ceqF d2 (by omega) (by omega) (by omega) (by omega)), if_neg d2]; exact ⟨M2, rfl, hAq⟩
  · rw [if_neg (fun q => c (of_decide_eq_true q)), if_neg c]; exact ⟨M, rfl, zAg.rfl'⟩
theorem look_m {K : Nat} (hK : K = 4096) (hS : ShOK S B) (hM : MN M B N Ls) (hn : 100000 ≤ n) {x : Int} (hx : zR x) : ∃ M', F_Mo_look n E S (B + 105) (iI x) M = some (iI (lookV N Ls K x), M') ∧ mP B M M' := by
  have hM0 := hM.mq (mQ_0 (M := M))
  have hN := hM.2.2.1
  unfold F_Mo_look lookV
  rw [iL0, hS.p105, obs, s_in01 hx, obs]
  by_cases c : 0 ≤ x ∧ x ≤ 1
  · obtain ⟨M1, e1, hsh1, hA1⟩ := s_layFalls (n := n) (E := E) hS hM0 (by omega)
    have hM1 := hM0.fa hA1
    rw [if_pos (decide_eq_true c), if_pos c, hS.ck105, obs, e1, obs]
    unfold F_Mo_look_b30
    -- its and the least, told by whether any fits
    have any : ∀ f : Int, (lkV N Ls f K).2 = 0 ↔ (lkV N Ls 0 K).2 = 0 := fun f => by rw [lk_0, lk_0]
    obtain ⟨s', m, ⟨M2, hs', hA2⟩, e⟩ := zfix_inv (F := fun r30 s => F_Mo_look_L30 n E S r30 s.1 s.2.1 s.2.2.1 s.2.2.2.1 s.2.2.2.2.1 s.2.2.2.2.2) (fun f s => ∃ M2, s = (B + 105, iI x, iI (if (lkV N Ls 0 K).2 = 0 ∨ (lbV N Ls K f).2 = -1 then 100000000 else (lbV N Ls K f).1), iI (if (lkV N Ls 0 K).2 = 0 then -1 else (lbV N Ls K f).2), iI (f : Int), M2) ∧ zAg (fun b j => b = B + 131) M1 M2) 8 (fun f hf s hI' => by
      obtain ⟨M2, rfl, hA2⟩ := hI'
      have hlb := lb_b (N := N) (Ls := Ls) hK f
      have hb := (lk_b (N := N) (Ls := Ls) (f := (f : Int)) K).2
      generalize hle : (if (lkV N Ls 0 K).2 = 0 ∨ (lbV N Ls K f).2 = -1 then (100000000 : Int) else (lbV N Ls K f).1) = le
      generalize hit : (if (lkV N Ls 0 K).2 = 0 then (-1 : Int) else (lbV N Ls K f).2) = it
      obtain ⟨s3, ⟨M3, hs3, h3, hA3⟩, e3⟩ := zfix_inv2 (F := fun r30 r40 s => F_Mo_look_L40 n E S r30 r40 s.1 s.2.1 s.2.2.1 s.2.2.2.1 s.2.2.2.2.1 s.2.2.2.2.2.1 s.2.2.2.2.2.2) (fun j s => ∃ M3, s = (B + 105, iI x, iI le, iI it, iI (f : Int), iI (j : Int), M3) ∧ (∀ v, v < j → mI M3 (B + 131) v = iI 0) ∧ zAg (fun b j => b = B + 131) M1 M3) 401 (fun j hj s hI' => by
        obtain ⟨M3, rfl, h3, hA3⟩ := hI'
        refine ⟨(B + 105, iI x, iI le, iI it, iI (f : Int), iI ((j + 1 : Nat) : Int), setI M3 (B + 131) j (iI 0)), ⟨_, rfl, fun v hv => ?_, hA3.setI rfl⟩, fun r30 rec => ?_⟩
        · rw [mI_ite]
          by_cases d : v = j
          · rw [if_pos ⟨rfl, d⟩]
          · rw [if_neg (fun q => d q.2), h3 v (by omega)]
        · show F_Mo_look_L40 n E S r30 rec (B + 105) (iI x) (iI le) (iI it) (iI (f : Int)) (iI (j : Int)) M3 = _
          unfold F_Mo_look_L40
          rw [iL400, if_neg (cltF (by omega) (by omega) (by omega)), hS.g105_46, obs, hS.w131 (by omega) (by omega), obs, iL1, iI_add, Int.toNat_natCast]
          rfl) n 0 (B + 105, iI x, iI le, iI it, iI (f : Int), 0, M2) (by omega) (by omega) ⟨M2, rfl, fun v hv => by omega, hA2⟩
      obtain ⟨s4, ⟨M4, hs4, h4, hA4⟩, e4⟩ := zfix_inv2 (F := fun r30 r68 s => F_Mo_look_L68 n E S r30 r68 s.1 s.2.1 s.2.2.1 s.2.2.2.1 s.2.2.2.2.1 s.2.2.2.2.2.1 s.2.2.2.2.2.2.1 s.2.2.2.2.2.2.2) (fun s st => ∃ M4, st = (B + 105, iI x, iI le, iI it, iI (f : Int), iI (lkV N Ls (f : Int) s).2, iI (s : Int), M4) ∧ (∀ v : Nat, v < 401 → mI M4 (B + 131) v = iI ((lkV N Ls (f : Int) s).1 (v : Int))) ∧ zAg (fun b j => b = B + 131) M1 M4) K (fun s hs st hI' => by
        obtain ⟨M4, rfl, h4, hA4⟩ := hI'
        have hM4 : MN M4 B N Ls := hM1.ag hA4 (fun j q => by omega) (fun q => by omega)
        have hsh4 : ∀ q, q < 256 → mI M4 (B + 130) q = iI (shQ N Ls q) := fun q hq => by rw [(hA4 _ _ (by omega)).1]; exact hsh1 q hq
        have htb := thV_b (Ls := Ls) hN (s := s) (f := (f : Int)) (by omega) (by omega)
        have hkb := lk_b (N := N) (Ls := Ls) (f := (f : Int)) s
        by_cases d : fitV N Ls s = true
        · have hv := h4 (thV N Ls s (f : Int)).toNat (by omega)
          rw [show (((thV N Ls s (f : Int)).toNat : Nat) : Int) = thV N Ls s (f : Int) by omega] at hv
          have hv1 := hkb.1 (thV N Ls s (f : Int))
          refine ⟨(B + 105, iI x, iI le, iI it, iI (f : Int), iI (lkV N Ls (f : Int) (s + 1)).2, iI ((s + 1 : Nat) : Int), setI M4 (B + 131) (thV N Ls s (f : Int)).toNat (iI ((lkV N Ls (f : Int) s).1 (thV N Ls s (f : Int)) + 1))), ⟨_, rfl, fun v hv => ?_, hA4.setI rfl⟩, fun r30 rec => ?_⟩
          · rw [lk_p d]
            dsimp only
            rw [mI_ite]
            by_cases d : v = (thV N Ls s (f : Int)).toNat
            · rw [if_pos ⟨rfl, d⟩, if_pos (by omega), show (v : Int) = thV N Ls s (f : Int) by omega]
            · rw [if_neg (fun q => d q.2), if_neg (by omega)]; exact h4 v hv
          · show F_Mo_look_L68 n E S r30 rec (B + 105) (iI x) (iI le) (iI it) (iI (f : Int)) (iI (lkV N Ls (f : Int) s).2) (iI (s : Int)) M4 = _
            unfold F_Mo_look_L68 F_Mo_look_b130 F_Mo_look_b132
            rw [iL4096, if_neg (cleF (by omega) (by omega) (by omega)), hS.ck105, obs, s_canBe hS hM4 hsh4 (by omega) (by omega), obs, if_pos (show (fitV N Ls s, M4).1 = true from d), s_fallsOn hS hsh4 (by omega) (by omega) hf, obs, hS.g105_46, obs, hS.r131 (by omega) (by omega), obs, hv, iL1, iI_add, hS.w131 (by omega) (by omega), obs, hS.r131 (by omega) (by omega), obs, mI_s, lk_p d, iI_add]
            dsimp only
            by_cases d2 : (lkV N Ls (f : Int) s).1 (thV N Ls s (f : Int)) + 1 ≤ (lkV N Ls (f : Int) s).2
            · rw [if_pos (cleT (by omega) (by omega) (by omega)), Int.max_eq_left d2]; rfl
            · rw [if_neg (cleF (by omega) (by omega) (by omega)), obs, Int.max_eq_right (by omega)]; rfl
        · refine ⟨(B + 105, iI x, iI le, iI it, iI (f : Int), iI (lkV N Ls (f : Int) (s + 1)).2, iI ((s + 1 : Nat) : Int), M4), ⟨_, rfl, by rw [lk_n d]; exact h4, hA4⟩, fun r30 rec => ?_⟩
          show F_Mo_look_L68 n E S r30 rec (B + 105) (iI x) (iI le) (iI it) (iI (f : Int)) (iI (lkV N Ls (f : Int) s).2) (iI (s : Int)) M4 = _
          unfold F_Mo_look_L68 F_Mo_look_b132
          rw [iL4096, if_neg (cleF (by omega) (by omega) (by omega)), hS.ck105, obs, s_canBe hS hM4 hsh4 (by omega) (by omega), obs, if_neg (show ¬ (fitV N Ls s, M4).1 = true from d), lk_n d, iL1, iI_add]
          rfl) n 0 (B + 105, iI x, iI le, iI it, iI (f : Int), 0, 0, M3) (by omega) (by omega) ⟨M3, rfl, fun v hv => h3 v hv, hA3⟩
      have hlt : le ≤ 100000000 ∧ 0 ≤ le := by rw [← hle]; split <;> omega
      refine ⟨(B + 105, iI x, iI (if (lkV N Ls 0 K).2 = 0 ∨ (lbV N Ls K (f + 1)).2 = -1 then 100000000 else (lbV N Ls K (f + 1)).1), iI (if (lkV N Ls 0 K).2 = 0 then -1 else (lbV N Ls K (f + 1)).2), iI ((f + 1 : Nat) : Int), M4), ⟨M4, rfl, hA4⟩, fun rec => ?_⟩
      show F_Mo_look_L30 n E S rec (B + 105) (iI x) (iI le) (iI it) (iI (f : Int)) M2 = _
      unfold F_Mo_look_L30 F_Mo_look_b40
      obtain ⟨w, e5⟩ := e3 rec
      rw [iL8, if_neg (cleF (by omega) (by omega) (by omega))]
      refine e5.trans ?_
      rw [hs3]
      show F_Mo_look_L40 n E S rec _ (B + 105) (iI x) (iI le) (iI it) (iI (f : Int)) (iI ((401 : Nat) : Int)) M3 = _
      unfold F_Mo_look_L40 F_Mo_look_b68
      obtain ⟨w6, e6⟩ := e4 rec
      rw [iL400, if_pos (cltT (by omega) (by omega) (by omega))]
      refine e6.trans ?_
      rw [hs4]
      show F_Mo_look_L68 n E S rec _ (B + 105) (iI x) (iI le) (iI it) (iI (f : Int)) (iI (lkV N Ls (f : Int) K).2) (iI (K : Int)) M4 = _
      unfold F_Mo_look_L68 F_Mo_look_b154 F_Mo_look_b155 F_Mo_look_b172 F_Mo_look_b173
      rw [iL4096, if_pos (cleT (by omega) (by omega) (by omega)), iL0, iL1, iI_add]
      have hany := any (f : Int)
      by_cases d0 : (lkV N Ls 0 K).2 = 0
      · have z := hany.mpr d0
        rw [if_pos d0] at hit
        rw [if_pos (Or.inl d0)] at hle
        rw [z, if_pos (cleT (by omega) (by omega) (by omega)), if_pos (Or.inl d0), if_pos d0, ← hle, ← hit]
        rfl
      · have z : (lkV N Ls (f : Int) K).2 ≠ 0 := fun q => d0 (hany.mp q)
        rw [if_neg d0] at hit
        by_cases d1 : (lkV N Ls (f : Int) K).2 < (lbV N Ls K f).1
        · have hll : (lkV N Ls (f : Int) K).2 < le := by rw [← hle]; split <;> omega
          rw [lb_p d1]
          dsimp only
          rw [if_neg (cleF (by omega) (by omega) (by omega)), if_neg (cleF (by omega) (by omega) (by omega)), if_neg (show ¬ ((lkV N Ls 0 K).2 = 0 ∨ (f : Int) = -1) by omega), if_neg d0, if_neg (cleF (by omega) (by omega) (by omega)), if_neg (cleF (by omega) (by omega) (by omega))]
          rfl
        · have hne : (lbV N Ls K f).2 ≠ -1 := fun q => by have := hlb.2.2.1 q; omega
          rw [if_neg (show ¬ ((lkV N Ls 0 K).2 = 0 ∨ (lbV N Ls K f).2 = -1) by omega)] at hle
          rw [lb_n d1, if_neg (cleF (by omega) (by omega) (by omega)), if_pos (cleT (by omega) (by omega) (by omega)), if_neg (show ¬ ((lkV N Ls 0 K).2 = 0 ∨ (lbV N Ls K f).2 = -1) by omega), if_neg d0, hle, hit, if_neg (cleF (by omega) (by omega) (by omega)), if_pos (cleT (by omega) (by omega) (by omega))]
          rfl) n 0 (B + 105, iI x, 100000000, -1, 0, M1) (by omega) (by omega) ⟨M1, by
        have e1 : (if (lkV N Ls 0 K).2 = 0 ∨ (lbV N Ls K 0).2 = -1 then (100000000 : Int) else (lbV N Ls K 0).1) = 100000000 := if_pos (Or.inr rfl)
        have e2 : (if (lkV N Ls 0 K).2 = 0 then (-1 : Int) else (lbV N Ls K 0).2) = -1 := by split <;> rfl
        rw [e1, e2]; rfl, zAg.rfl'⟩
    have hlb := lb_b (N := N) (Ls := Ls) hK 8
    have hne : (lbV N Ls K 8).2 ≠ -1 := fun q => by have := hlb.2.2.1 q; omega
    refine ⟨M2, ?_, mP_0.trans (mP.q ((fa_q hA1).trans (hA2.mono (fun b j q => by unfold mQ; omega))))⟩
    refine e.trans ?_
    rw [hs']
    show F_Mo_look_L30 n E S _ (B + 105) (iI x) (iI (if (lkV N Ls 0 K).2 = 0 ∨ (lbV N Ls K 8).2 = -1 then 100000000 else (lbV N Ls K 8).1)) (iI (if (lkV N Ls 0 K).2 = 0 then -1 else (lbV N Ls K 8).2)) (iI ((8 : Nat) : Int)) M2 = _
    unfold F_Mo_look_L30 F_Mo_look_b189
    rw [iL8, if_pos (cleT (by omega) (by omega) (by omega)), iL1, iI_neg, iL0]
    by_cases d0 : (lkV N Ls 0 K).2 = 0
    · rw [if_pos d0, if_pos d0, if_pos rfl]
    · rw [if_neg d0, if_neg d0, if_neg (show ¬ ((lkV N Ls 0 K).2 = 0 ∨ (lbV N Ls K 8).2 = -1) by omega), if_neg (ceqF hne (by omega) (by omega) (by omega) (by omega))]
      by_cases d2 : x = 0
      · rw [if_pos (ceqT d2), if_pos d2]
      · rw [if_neg (ceqF d2 (by omega) (by omega) (by omega) (by omega)), if_neg d2]
  · rw [if_neg (fun q => c (of_decide_eq_true q)), if_neg c]; exact ⟨_, rfl, mP_0⟩
theorem c_look (h : Inv S M B) (hn : 100000 ≤ n) {x : Int} (hx : zR x) : Ag1 S B M (fun M => F_NC_look n E S (B + 0) (iI x) M) (fun M => F_Mo_look n E S (B + 105) (iI x) M) :=
  Ag1.qr h (fun N Ls => iI (lookV N Ls 4096 x)) (fun N Ls hC hh => look_c rfl h.1 hC hn hx) (fun M N Ls hM hh => look_m rfl h.1 hM hn hx)
end
