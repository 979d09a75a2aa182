/-! THE PAST: what can be undone -/
theorem q0p {M : zH} : ((iI 0, M) : Int32 × zH).fst = 0 := rfl
theorem cltT {x y : Int} (h : x < y) (h1 : -2147483648 ≤ x) (h2 : y < 2147483648) : iI x < iI y := iI_ltT h ⟨h1, by omega⟩ ⟨by omega, h2⟩
theorem cltF {x y : Int} (h : y ≤ x) (h1 : -2147483648 ≤ y) (h2 : x < 2147483648) : ¬ iI x < iI y := iI_ltF h ⟨by omega, h2⟩ ⟨h1, by omega⟩
theorem cleT {x y : Int} (h : x ≤ y) (h1 : -2147483648 ≤ x) (h2 : y < 2147483648) : iI x ≤ iI y := iI_leT h ⟨h1, by omega⟩ ⟨by omega, h2⟩
theorem cleF {x y : Int} (h : y < x) (h1 : -2147483648 ≤ y) (h2 : x < 2147483648) : ¬ iI x ≤ iI y := iI_leF h ⟨by omega, h2⟩ ⟨h1, by omega⟩
theorem ceqT {x y : Int} (h : x = y) : iI x = iI y := by rw [h]
theorem ceqF {x y : Int} (h : x ≠ y) (h1 : -2147483648 ≤ x) (h2 : x < 2147483648) (h3 : -2147483648 ≤ y) (h4 : y < 2147483648) : ¬ iI x = iI y := iI_neT h ⟨h1, h2⟩ ⟨h3, h4⟩
/-- a part of an array is copied -/
def cpM (M : zH) (s i d j L : Nat) : zH := (fun q p => if q = d ∧ j ≤ p ∧ p < j + L then mI M s (i + (p - j)) else mI M q p, mJ M, mR M)
theorem mI_cp {M : zH} {s i d j L q p : Nat} : mI (cpM M s i d j L) q p = if q = d ∧ j ≤ p ∧ p < j + L then mI M s (i + (p - j)) else mI M q p := rfl
theorem pi_cp {S : zS} {M : zH} {s d ls ld : Nat} {i j L : Int} (hs : sK S s = 12) (hd : sK S d = 12) (hns : sN S s = ls) (hnd : sN S d = ld) (hi : 0 ≤ i) (hj : 0 ≤ j) (hL : 0 ≤ L) (h1 : i + L ≤ ls) (h2 : j + L ≤ ld) (b1 : ls ≤ 100000) (b2 : ld ≤ 100000) : zcpy S M s (iI i) d (iI j) (iI L) = some (cpM M s i.toNat d j.toNat L.toNat) := by
  have n0 : ∀ x : Int, 0 ≤ x → x ≤ 100000 → ¬ iI x < 0 := fun x h0 h1 q => by
    have := (iI_lt (x := x) (y := 0) (zR_of (by omega) (by omega)) (zR_of (by omega) (by omega))).mp q
    omega
  unfold zcpy
  rw [iI_clamp hi (by omega), iI_clamp hj (by omega), iI_clamp hL (by omega), if_pos ⟨hs, hd, n0 _ hi (by omega), n0 _ hj (by omega), n0 _ hL (by omega), by rw [hns]; omega, by rw [hnd]; omega⟩]
  unfold cpM
  congr 2
  funext q p
  by_cases h : q = d
  · subst h
    rw [if_pos rfl]
    unfold va_cpy
    by_cases c : j.toNat ≤ p ∧ p < j.toNat + L.toNat
    · rw [if_pos c, if_pos ⟨rfl, c.1, c.2⟩]
    · rw [if_neg c, if_neg (fun z => c z.2)]
  · rw [if_neg h, if_neg (fun z => h z.1)]
theorem zAg.cp {X : Nat → Nat → Prop} {M M1 : zH} {s i d j L : Nat} (h1 : zAg X M M1) (hx : ∀ p, j ≤ p → p < j + L → X d p) : zAg X M (cpM M1 s i d j L) := fun b p h => by
  refine ⟨?_, (h1 b p h).2.1, (h1 b p h).2.2⟩
  rw [mI_cp, if_neg (fun q => h (by rw [q.1]; exact hx p q.2.1 q.2.2))]
  exact (h1 b p h).1
/-- how many; of each the deed, its two numbers, the buckets' numbers, the night ahead of it -/
abbrev Pst : Type := Nat × (Nat → Int) × (Nat → Int) × (Nat → Int) × (Nat → Nat → Int) × (Nat → Nt)
def pU (T : Pst) : Nat := T.1
def pD (T : Pst) : Nat → Int := T.2.1
def pA (T : Pst) : Nat → Int := T.2.2.1
def pB (T : Pst) : Nat → Int := T.2.2.2.1
def pG (T : Pst) : Nat → Nat → Int := T.2.2.2.2.1
def pP (T : Pst) : Nat → Nt := T.2.2.2.2.2
def PRow (M : zH) (B i : Nat) (d a b : Int) (g : Nat → Int) : Prop := mI M (B + 64) (6 * i) = iI d ∧ mI M (B + 64) (6 * i + 1) = iI a ∧ mI M (B + 64) (6 * i + 2) = iI b ∧ ∀ k, k < 3 → mI M (B + 64) (6 * i + 3 + k) = iI (g k)
def PC (M : zH) (B : Nat) (T : Pst) : Prop := mI M (B + 63) 1 = iI (pU T : Int) ∧ ∀ i, i < pU T → PRow M B i (pD T i) (pA T i) (pB T i) (pG T i)
def PMr (M : zH) (B i : Nat) (d : Int) (P : Nt) : Prop := mI M (B + 111) i = iI d ∧ ∀ k, k < 50 → mI M (B + 110) (50 * i + k) = iI (snap P k)
def PM (M : zH) (B : Nat) (T : Pst) : Prop := mI M (B + 105) 8 = iI (pU T : Int) ∧ ∀ i, i < pU T → PMr M B i (pD T i) (pP T i)
def PJ (N : Nt) (T : Pst) : Prop := pU T ≤ 16 ∧ ∀ i, i < pU T → (0 ≤ pD T i ∧ pD T i ≤ 3 ∧ (pD T i < 2 → 0 ≤ pA T i ∧ pA T i < 8 ∧ 0 ≤ pB T i ∧ pB T i < 4)) ∧ (NdOK (pP T i) ∧ pP T i 9 0 ≤ 999) ∧ snEq (bkN (pD T i) (pA T i) (pB T i) (pG T i) (if i + 1 = pU T then N else pP T (i + 1))) (pP T i)
theorem PastR.out {M : zH} {B : Nat} {N : Nt} (h : PastR M B N) : ∃ T, PC M B T ∧ PM M B T ∧ PJ N T := by
  obtain ⟨u, d, a, b, g, P, h1, h2, h3, h4⟩ := h
  exact ⟨(u, d, a, b, g, P), ⟨h2, fun i hi => (h4 i hi).2.1⟩, ⟨h3, fun i hi => (h4 i hi).2.2.1⟩, ⟨h1, fun i hi => ⟨(h4 i hi).1, (h4 i hi).2.2.2.1, (h4 i hi).2.2.2.2⟩⟩⟩
theorem PastR.mk {M : zH} {B : Nat} {N : Nt} {T : Pst} (hc : PC M B T) (hm : PM M B T) (hj : PJ N T) : PastR M B N := by
  obtain ⟨u, d, a, b, g, P⟩ := T
  exact ⟨u, d, a, b, g, P, hj.1, hc.1, hm.1, fun i hi => ⟨(hj.2 i hi).1, hc.2 i hi, hm.2 i hi, (hj.2 i hi).2.1, (hj.2 i hi).2.2⟩⟩
theorem PC.ag {X : Nat → Nat → Prop} {M M' : zH} {B : Nat} {T : Pst} (h : PC M B T) (hA : zAg X M M') (h1 : ¬ X (B + 63) 1) (h2 : ∀ j, ¬ X (B + 64) j) : PC M' B T :=
  ⟨by rw [(hA _ _ h1).1]; exact h.1, fun i hi => ⟨by rw [(hA _ _ (h2 _)).1]; exact (h.2 i hi).1, by rw [(hA _ _ (h2 _)).1]; exact (h.2 i hi).2.1, by rw [(hA _ _ (h2 _)).1]; exact (h.2 i hi).2.2.1, fun k hk => by rw [(hA _ _ (h2 _)).1]; exact (h.2 i hi).2.2.2 k hk⟩⟩
theorem PM.ag {X : Nat → Nat → Prop} {M M' : zH} {B : Nat} {T : Pst} (h : PM M B T) (hu : pU T ≤ 16) (hA : zAg X M M') (h1 : ¬ X (B + 105) 8) (h2 : ∀ j, j < 800 → ¬ X (B + 110) j) (h3 : ∀ j, j < 16 → ¬ X (B + 111) j) : PM M' B T :=
  ⟨by rw [(hA _ _ h1).1]; exact h.1, fun i hi => ⟨by rw [(hA _ _ (h3 _ (by omega))).1]; exact (h.2 i hi).1, fun k hk => by rw [(hA _ _ (h2 _ (by omega))).1]; exact (h.2 i hi).2 k hk⟩⟩
/-- one more; of sixteen the first goes -/
def pAt (T : Pst) : Nat := if pU T < 16 then pU T else 15
def pSh (T : Pst) : Nat := if pU T < 16 then 0 else 1
def psh (T : Pst) (d a b : Int) (g : Nat → Int) (N : Nt) : Pst := (pAt T + 1, fun i => if i = pAt T then d else pD T (i + pSh T), fun i => if i = pAt T then a else pA T (i + pSh T), fun i => if i = pAt T then b else pB T (i + pSh T), fun i => if i = pAt T then g else pG T (i + pSh T), fun i => if i = pAt T then N else pP T (i + pSh T))
/-- the latest is taken -/
def pop (T : Pst) : Pst := (pU T - 1, T.2)
theorem pAt_u {T : Pst} (h : pU T ≤ 16) : pAt T ≤ 15 ∧ pAt T + pSh T = pU T := by
  unfold pAt pSh
  by_cases c : pU T < 16
  · rw [if_pos c, if_pos c]; omega
  · rw [if_neg c, if_neg c]; omega
theorem PJ.psh {N N' : Nt} {T : Pst} {d a b : Int} {g : Nat → Int} (h : PJ N T) (hN : NdOK N) (hh : N 9 0 ≤ 999) (hd : 0 ≤ d ∧ d ≤ 3 ∧ (d < 2 → 0 ≤ a ∧ a < 8 ∧ 0 ≤ b ∧ b < 4)) (he : snEq (bkN d a b g N') N) : PJ N' (psh T d a b g N) := by
  obtain ⟨k1, k2⟩ := pAt_u h.1
  refine ⟨show pAt T + 1 ≤ 16 by omega, fun i hi => ?_⟩
  have hi' : i < pAt T + 1 := hi
  show (0 ≤ (if i = pAt T then d else pD T (i + pSh T)) ∧ (if i = pAt T then d else pD T (i + pSh T)) ≤ 3 ∧ ((if i = pAt T then d else pD T (i + pSh T)) < 2 → 0 ≤ (if i = pAt T then a else pA T (i + pSh T)) ∧ (if i = pAt T then a else pA T (i + pSh T)) < 8 ∧ 0 ≤ (if i = pAt T then b else pB T (i + pSh T)) ∧ (if i = pAt T then b else pB T (i + pSh T)) < 4)) ∧ (NdOK (if i = pAt T then N else pP T (i + pSh T)) ∧ (if i = pAt T then N else pP T (i + pSh T)) 9 0 ≤ 999) ∧ snEq (bkN (if i = pAt T then d else pD T (i + pSh T)) (if i = pAt T then a else pA T (i + pSh T)) (if i = pAt T then b else pB T (i + pSh T)) (if i = pAt T then g else pG T (i + pSh T)) (if i + 1 = pAt T + 1 then N' else (if i + 1 = pAt T then N else pP T (i + 1 + pSh T)))) (if i = pAt T then N else pP T (i + pSh T))
  by_cases c : i = pAt T
  · simp only [if_pos c, if_pos (show i + 1 = pAt T + 1 by omega)]
    exact ⟨hd, ⟨hN, hh⟩, he⟩
  · simp only [if_neg c, if_neg (show ¬ i + 1 = pAt T + 1 by omega)]
    obtain ⟨g1, g2, g3⟩ := h.2 (i + pSh T) (by omega)
    refine ⟨g1, g2, ?_⟩
    by_cases c2 : i + 1 = pAt T
    · rw [if_pos c2]
      rw [if_pos (by omega)] at g3
      exact g3
    · rw [if_neg c2, show i + 1 + pSh T = i + pSh T + 1 by omega]
      rw [if_neg (by omega)] at g3
      exact g3
theorem PJ.pop {N N' : Nt} {T : Pst} (h : PJ N T) (hu : 0 < pU T) (he : snEq (pP T (pU T - 1)) N') : PJ N' (pop T) := by
  refine ⟨show pU T - 1 ≤ 16 by have := h.1; omega, fun i hi => ?_⟩
  have hi' : i < pU T - 1 := hi
  obtain ⟨g1, g2, g3⟩ := h.2 i (by omega)
  refine ⟨g1, g2, ?_⟩
  show snEq (bkN (pD T i) (pA T i) (pB T i) (pG T i) (if i + 1 = pU T - 1 then N' else pP T (i + 1))) (pP T i)
  rw [if_neg (by omega)] at g3
  by_cases c : i + 1 = pU T - 1
  · rw [if_pos c]
    rw [c] at g3
    exact (bkN_cg he.symm).trans g3
  · rw [if_neg c]; exact g3
section
variable {n : Nat} {E : zE} {S : zS} {M : zH} {B : Nat} {N : Nt} {Ls : Nat → Lw}
/-- the class's add -/
theorem ptAdd_b (hS : ShOK S B) {u : Nat} (hu : u ≤ 15) {D A Bf : Nat → Int} {G : Nat → Nat → Int} {d a b : Int} {g : Nat → Int} {q : Nat} (hk : sK S q = 12) (hn : sN S q = 3) (hq : q ≠ B + 64) (hg : ∀ k, k < 3 → mI M q k = iI (g k)) (h63 : mI M (B + 63) 1 = iI (u : Int)) (hr : ∀ i, i < u → PRow M B i (D i) (A i) (Bf i) (G i)) :
    ∃ M', F_Pt_add_b37 n E S (B + 63) (iI d) (iI a) (iI b) q M = some M' ∧ mI M' (B + 63) 1 = iI ((u + 1 : Nat) : Int) ∧ (∀ i, i < u → PRow M' B i (D i) (A i) (Bf i) (G i)) ∧ PRow M' B u d a b g ∧ zAg (fun b j => (b = B + 63 ∧ j = 1) ∨ b = B + 64) M M' := by
  have hcp : ∀ M : zH, zcpy S M q (iI 0) (B + 64) (iI ((u : Int) * 6 + 3)) (iI 3) = some (cpM M q 0 (B + 64) (6 * u + 3) 3) := fun M => by
    rw [pi_cp hk (hS.k 64 (by decide)) hn (hS.n 64 (by decide)) (by omega) (by omega) (by omega) (by omega) (by show (u : Int) * 6 + 3 + 3 ≤ ((96 : Nat) : Int); omega) (by omega) (by decide), show (Int.toNat 0) = 0 from rfl, show ((u : Int) * 6 + 3).toNat = 6 * u + 3 by omega, show (Int.toNat 3) = 3 from rfl]
  refine ⟨setI (cpM (setI (setI (setI M (B + 64) (6 * u) (iI d)) (B + 64) (6 * u + 1) (iI a)) (B + 64) (6 * u + 2) (iI b)) q 0 (B + 64) (6 * u + 3) 3) (B + 63) 1 (iI ((u + 1 : Nat) : Int)), ?_, ?_, fun i hi => ?_, ?_, ?_⟩
  · unfold F_Pt_add_b37
    have e63 : mI (cpM (setI (setI (setI M (B + 64) (6 * u) (iI d)) (B + 64) (6 * u + 1) (iI a)) (B + 64) (6 * u + 2) (iI b)) q 0 (B + 64) (6 * u + 3) 3) (B + 63) 1 = iI (u : Int) := by
      rw [mI_cp, if_neg (by omega), mI_a (by omega), mI_a (by omega), mI_a (by omega), h63]
    rw [hS.i63, obs, h63, hS.g63_0, obs, iL6, iI_mul, hS.w64 (by omega) (by omega), obs, iL1, iI_add, hS.w64 (by omega) (by omega), obs, iL2, iI_add, hS.w64 (by omega) (by omega), obs, iL0, iL3, iI_add, show ((u : Int) * 6).toNat = 6 * u by omega, show ((u : Int) * 6 + 1).toNat = 6 * u + 1 by omega, show ((u : Int) * 6 + 2).toNat = 6 * u + 2 by omega, hcp, obs, hS.i63, obs, e63, iI_add, hS.p63, obs]
    rfl
  · rw [mI_s]
  · obtain ⟨r1, r2, r3, r4⟩ := hr i hi
    have go : ∀ j, j < 6 * u → mI (setI (cpM (setI (setI (setI M (B + 64) (6 * u) (iI d)) (B + 64) (6 * u + 1) (iI a)) (B + 64) (6 * u + 2) (iI b)) q 0 (B + 64) (6 * u + 3) 3) (B + 63) 1 (iI ((u + 1 : Nat) : Int))) (B + 64) j = mI M (B + 64) j := fun j hj => by
      rw [mI_a (by omega), mI_cp, if_neg (by omega), mI_i (by omega), mI_i (by omega), mI_i (by omega)]
    exact ⟨by rw [go _ (by omega)]; exact r1, by rw [go _ (by omega)]; exact r2, by rw [go _ (by omega)]; exact r3, fun k hk => by rw [go _ (by omega)]; exact r4 k hk⟩
  · refine ⟨?_, ?_, ?_, fun k hk => ?_⟩
    · rw [mI_a (by omega), mI_cp, if_neg (by omega), mI_i (by omega), mI_i (by omega), mI_s]
    · rw [mI_a (by omega), mI_cp, if_neg (by omega), mI_i (by omega), mI_s]
    · rw [mI_a (by omega), mI_cp, if_neg (by omega), mI_s]
    · rw [mI_a (by omega), mI_cp, if_pos ⟨rfl, by omega, by omega⟩, mI_a hq, mI_a hq, mI_a hq, show 0 + (6 * u + 3 + k - (6 * u + 3)) = k by omega]
      exact hg k hk
  · refine ((((zAg.rfl'.setI ?_).setI ?_).setI ?_).cp ?_).setI ?_
    · right; rfl
    · right; rfl
    · right; rfl
    · intro p _ _; right; rfl
    · left; exact ⟨rfl, rfl⟩
theorem s_ptAdd (hS : ShOK S B) {T : Pst} (hP : PC M B T) (hu : pU T ≤ 16) {d a b : Int} {g : Nat → Int} {q : Nat} (hk : sK S q = 12) (hn : sN S q = 3) (hq : q ≠ B + 64) (hq2 : q ≠ B + 63) (hg : ∀ k, k < 3 → mI M q k = iI (g k)) :
    ∃ M', F_Pt_add n E S (B + 63) (iI d) (iI a) (iI b) q M = some M' ∧ PC M' B (psh T d a b g N) ∧ zAg (fun b j => (b = B + 63 ∧ j = 1) ∨ b = B + 64) M M' := by
  unfold F_Pt_add
  rw [hS.i63, obs, hP.1, iL16]
  have fin : ∀ M' : zH, mI M' (B + 63) 1 = iI ((pAt T + 1 : Nat) : Int) → (∀ i, i < pAt T → PRow M' B i (pD T (i + pSh T)) (pA T (i + pSh T)) (pB T (i + pSh T)) (pG T (i + pSh T))) → PRow M' B (pAt T) d a b g → PC M' B (psh T d a b g N) := fun M' h1 h2 h3 => by
    refine ⟨h1, fun i hi => ?_⟩
    have hi' : i < pAt T + 1 := hi
    show PRow M' B i (if i = pAt T then d else pD T (i + pSh T)) (if i = pAt T then a else pA T (i + pSh T)) (if i = pAt T then b else pB T (i + pSh T)) (if i = pAt T then g else pG T (i + pSh T))
    by_cases c : i = pAt T
    · simp only [if_pos c]; rw [c]; exact h3
    · simp only [if_neg c]; exact h2 i (by omega)
  by_cases c : pU T < 16
  · have ea : pAt T = pU T := if_pos c
    have es : pSh T = 0 := if_pos c
    rw [if_pos (cltT (by omega) (by omega) (by omega))]
    obtain ⟨M', e, h1, h2, h3, h4⟩ := ptAdd_b (n := n) (E := E) (d := d) (a := a) (b := b) hS (u := pU T) (by omega) hk hn hq hg hP.1 hP.2
    rw [ea, es] at fin
    exact ⟨M', e, fin M' h1 h2 h3, h4⟩
  · have ea : pAt T = 15 := if_neg c
    have es : pSh T = 1 := if_neg c
    rw [if_neg (cltF (by omega) (by omega) (by omega)), hS.g63_0, obs, hS.l64, obs, iL6, iI_sub, iL0, pi_cp (ls := 96) (ld := 96) (hS.k 64 (by decide)) (hS.k 64 (by decide)) (hS.n 64 (by decide)) (hS.n 64 (by decide)) (by omega) (by omega) (by omega) (by omega) (by omega) (by omega) (by decide), obs, hS.p63, obs]
    have hu16 : pU T = 16 := by omega
    have hr : ∀ i, i < 15 → PRow (setI (cpM M (B + 64) (Int.toNat 6) (B + 64) (Int.toNat 0) (Int.toNat (96 - 6))) (B + 63) 1 15) B i (pD T (i + 1)) (pA T (i + 1)) (pB T (i + 1)) (pG T (i + 1)) := fun i hi => by
      obtain ⟨r1, r2, r3, r4⟩ := hP.2 (i + 1) (by omega)
      have go : ∀ j, j < 90 → mI (setI (cpM M (B + 64) (Int.toNat 6) (B + 64) (Int.toNat 0) (Int.toNat (96 - 6))) (B + 63) 1 15) (B + 64) j = mI M (B + 64) (j + 6) := fun j hj => by
        rw [mI_a (by omega), mI_cp, if_pos ⟨rfl, by show 0 ≤ j; omega, by show j < 0 + 90; omega⟩]
        congr 1
        show 6 + (j - 0) = j + 6
        omega
      refine ⟨?_, ?_, ?_, fun k hk => ?_⟩
      · rw [go _ (by omega), show 6 * i + 6 = 6 * (i + 1) by omega]; exact r1
      · rw [go _ (by omega), show 6 * i + 1 + 6 = 6 * (i + 1) + 1 by omega]; exact r2
      · rw [go _ (by omega), show 6 * i + 2 + 6 = 6 * (i + 1) + 2 by omega]; exact r3
      · rw [go _ (by omega), show 6 * i + 3 + k + 6 = 6 * (i + 1) + 3 + k by omega]; exact r4 k hk
    have hg' : ∀ k, k < 3 → mI (setI (cpM M (B + 64) (Int.toNat 6) (B + 64) (Int.toNat 0) (Int.toNat (96 - 6))) (B + 63) 1 15) q k = iI (g k) := fun k hk => by
      rw [mI_a hq2, mI_cp, if_neg (fun z => hq z.1)]; exact hg k hk
    obtain ⟨M', e, h1, h2, h3, h4⟩ := ptAdd_b (n := n) (E := E) (d := d) (a := a) (b := b) hS (u := 15) (by omega) hk hn hq hg' (by rw [mI_s]; rfl) hr
    rw [ea, es] at fin
    refine ⟨M', e, fin M' h1 h2 h3, zAg.trans ?_ h4⟩
    refine (zAg.rfl'.cp ?_).setI ?_
    · intro p _ _; right; rfl
    · left; exact ⟨rfl, rfl⟩
end
