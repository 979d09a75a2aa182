/-! THE INVARIANT between class and model -/
/-- of a night: what undo goes back to, as the model's snapshot has it -/
def snap (N : Nt) (k : Nat) : Int := if k < 4 then N 9 k else if k < 8 then N 2 (k - 4) else if k < 40 then N 0 (k - 8) else if k < 44 then bmask N (k - 40) else if k < 47 then N 4 (k - 44) else N 5 (k - 47)
/-- alike but for what is wanted, seen, law -/
def snEq (N N' : Nt) : Prop := (∀ k, k < 32 → N 0 k = N' 0 k) ∧ (∀ k, k < 32 → N 1 k = N' 1 k) ∧ (∀ k, k < 4 → N 2 k = N' 2 k) ∧ (∀ k, k < 3 → N 3 k = N' 3 k) ∧ (∀ k, k < 3 → N 4 k = N' 4 k) ∧ (∀ k, k < 3 → N 5 k = N' 5 k) ∧ (∀ k, k < 4 → N 9 k = N' 9 k) ∧ N 11 0 = N' 11 0
/-- back by one deed -/
def bkN (d a b : Int) (g : Nat → Int) (N : Nt) : Nt :=
  if d = 0 then nset N 1 (b * 8 + a).toNat (1 - N 1 (b * 8 + a).toNat) else if d = 1 then nset N 0 (b * 8 + a).toNat (N 0 (b * 8 + a).toNat - 1) else if d = 2 then (fun c k => if c = 5 ∧ k < 3 then g k else N c k) else nturn (fun c k => if c = 4 ∧ k < 3 then g k else N c k) (-1)
theorem snEq.rfl' {N : Nt} : snEq N N := ⟨fun _ _ => rfl, fun _ _ => rfl, fun _ _ => rfl, fun _ _ => rfl, fun _ _ => rfl, fun _ _ => rfl, fun _ _ => rfl, rfl⟩
theorem snEq.symm {N N' : Nt} (h : snEq N N') : snEq N' N := ⟨fun k hk => (h.1 k hk).symm, fun k hk => (h.2.1 k hk).symm, fun k hk => (h.2.2.1 k hk).symm, fun k hk => (h.2.2.2.1 k hk).symm, fun k hk => (h.2.2.2.2.1 k hk).symm, fun k hk => (h.2.2.2.2.2.1 k hk).symm, fun k hk => (h.2.2.2.2.2.2.1 k hk).symm, h.2.2.2.2.2.2.2.symm⟩
theorem snEq.trans {N N1 N' : Nt} (h : snEq N N1) (q : snEq N1 N') : snEq N N' := ⟨fun k hk => (h.1 k hk).trans (q.1 k hk), fun k hk => (h.2.1 k hk).trans (q.2.1 k hk), fun k hk => (h.2.2.1 k hk).trans (q.2.2.1 k hk), fun k hk => (h.2.2.2.1 k hk).trans (q.2.2.2.1 k hk), fun k hk => (h.2.2.2.2.1 k hk).trans (q.2.2.2.2.1 k hk), fun k hk => (h.2.2.2.2.2.1 k hk).trans (q.2.2.2.2.2.1 k hk), fun k hk => (h.2.2.2.2.2.2.1 k hk).trans (q.2.2.2.2.2.2.1 k hk), h.2.2.2.2.2.2.2.trans q.2.2.2.2.2.2.2⟩
theorem bkN_cg {d a b : Int} {g : Nat → Int} {N N' : Nt} (h : snEq N N') : snEq (bkN d a b g N) (bkN d a b g N') := by
  obtain ⟨h0, h1, h2, h3, h4, h5, h9, h11⟩ := h
  unfold bkN
  by_cases c0 : d = 0
  · rw [if_pos c0, if_pos c0]
    refine ⟨h0, fun k hk => ?_, h2, h3, h4, h5, h9, h11⟩
    unfold nset
    by_cases q : 1 = 1 ∧ k = (b * 8 + a).toNat
    · rw [if_pos q, if_pos q, ← q.2, h1 k hk]
    · rw [if_neg q, if_neg q, h1 k hk]
  rw [if_neg c0, if_neg c0]
  by_cases c1 : d = 1
  · rw [if_pos c1, if_pos c1]
    refine ⟨fun k hk => ?_, h1, h2, h3, h4, h5, h9, h11⟩
    unfold nset
    by_cases q : 0 = 0 ∧ k = (b * 8 + a).toNat
    · rw [if_pos q, if_pos q, ← q.2, h0 k hk]
    · rw [if_neg q, if_neg q, h0 k hk]
  rw [if_neg c1, if_neg c1]
  by_cases c2 : d = 2
  · rw [if_pos c2, if_pos c2]
    refine ⟨h0, h1, h2, h3, h4, fun k hk => ?_, h9, h11⟩
    dsimp only
    rw [if_pos ⟨rfl, hk⟩, if_pos ⟨rfl, hk⟩]
  rw [if_neg c2, if_neg c2]
  refine ⟨h0, h1, fun k hk => ?_, h3, fun k hk => ?_, h5, fun k hk => ?_, h11⟩
  · simp [nturn, hk, h2 k hk]
  · simp [nturn, hk]
  · by_cases q : k = 0
    · subst q
      simp [nturn, h9 0 (by decide)]
    · simp [nturn, q, h9 k hk]
theorem snap_cg {N N' : Nt} (h : snEq N N') {k : Nat} (hk : k < 50) : snap N k = snap N' k := by
  obtain ⟨h0, h1, h2, h3, h4, h5, h9, h11⟩ := h
  unfold snap
  split
  · exact h9 _ (by omega)
  split
  · exact h2 _ (by omega)
  split
  · exact h0 _ (by omega)
  split
  · unfold bmask
    rw [h1 _ (by omega), h1 _ (by omega), h1 _ (by omega), h1 _ (by omega), h1 _ (by omega), h1 _ (by omega), h1 _ (by omega), h1 _ (by omega)]
  split
  · exact h4 _ (by omega)
  · exact h5 _ (by omega)
def PastR (M : zH) (B : Nat) (N : Nt) : Prop := ∃ (u : Nat) (d a b : Nat → Int) (g : Nat → Nat → Int) (P : Nat → Nt), u ≤ 16 ∧ mI M (B + 63) 1 = iI (u : Int) ∧ mI M (B + 105) 8 = iI (u : Int) ∧ ∀ i, i < u →
  (0 ≤ d i ∧ d i ≤ 3 ∧ (d i < 2 → 0 ≤ a i ∧ a i < 8 ∧ 0 ≤ b i ∧ b i < 4)) ∧ (mI M (B + 64) (6 * i) = iI (d i) ∧ mI M (B + 64) (6 * i + 1) = iI (a i) ∧ mI M (B + 64) (6 * i + 2) = iI (b i) ∧ ∀ k, k < 3 → mI M (B + 64) (6 * i + 3 + k) = iI (g i k)) ∧
  (mI M (B + 111) i = iI (d i) ∧ ∀ k, k < 50 → mI M (B + 110) (50 * i + k) = iI (snap (P i) k)) ∧ (NdOK (P i) ∧ (P i) 9 0 ≤ 999) ∧ snEq (bkN (d i) (a i) (b i) (g i) (if i + 1 = u then N else P (i + 1))) (P i)
def iaI (k : Nat) : Nat := if k = 0 then 14 else 26
def ImR (S : zS) (M : zH) (B k : Nat) : Prop := (mI M (B + 38) k = 0 ∧ mI M (B + 109) k = 0) ∨ (mI M (B + 38) k = 1 ∧ mI M (B + 109) k = 1 ∧ ∃ N Ls, CN S M B (B + iaI k) N Ls ∧ N 9 0 ≤ 999 ∧ RwN (fun i => mI M (B + 108) (5480 * k + i)) N ∧ ∀ j : Nat, j < 6 → (j : Int) < N 13 0 → RwL (fun i => mI M (B + 108) (5480 * k + i)) j (Ls j))
/-- a byte with its sign -/
def sgb (t : Int) : Int := if t < 128 then t else t - 256
def TapeR (M : zH) (B : Nat) : Prop := ∃ (l : Nat) (tb : Nat → Int), l ≤ 400 ∧ mI M (B + 67) 1 = iI (l : Int) ∧ mI M (B + 105) 13 = iI (l : Int) ∧ ∀ k, k < l → 0 ≤ tb k ∧ tb k < 256 ∧ mI M (B + 114) k = iI (tb k) ∧ mI M (B + 68) k = iI (sgb (tb k))
def MiscR (M : zH) (B : Nat) : Prop := (mI M (B + 0) 15 = mI M (B + 105) 1 ∧ mI M (B + 0) 16 = mI M (B + 105) 11 ∧ mI M (B + 0) 17 = mI M (B + 105) 18 ∧ mI M (B + 0) 18 = mI M (B + 105) 52) ∧ (mI M (B + 104) 0 = mI M (B + 106) 1 ∧ mI M (B + 104) 1 = mI M (B + 106) 2 ∧ mI M (B + 104) 2 = mI M (B + 106) 3 ∧ mI M (B + 104) 3 = mI M (B + 106) 5 ∧ mI M (B + 104) 4 = mI M (B + 106) 6)
def YearR (M : zH) (B : Nat) : Prop := (mI M (B + 0) 14 = 0 ∧ mI M (B + 105) 56 = iI (-1)) ∨ (mI M (B + 0) 14 = 1 ∧ ∃ N : Nt, NdOK N ∧ NiR M (B + 39) N ∧ mI M (B + 105) 56 = iI (N 11 0) ∧ (∀ r : Nat, r < 4 → mI M (B + 135) r = iI (zsum (fun h => N 0 ((r : Int) * 8 + h).toNat) 8) ∧ mI M (B + 135) (4 + r) = iI (N 2 r)) ∧ ∀ b : Nat, (b : Int) < N 11 0 → mI M (B + 135) (8 + b) = iI (N 4 b))
def cW : Nat → Int := fun i => match i with | 0 => 599495 | 1 => 277893 | 2 => 81477 | 3 => 6591876 | 4 => 89238708 | 5 => 12769452 | 6 => 278194 | 7 => 23732 | _ => 441828
def cO : Nat → Int := fun i => match i with | 0 => 278194 | 1 => 146885 | 2 => 404362868 | 3 => 102407444 | 4 => 677454 | 5 => 12769452 | _ => 209399
def cH : Nat → Int := fun i => match i with | 0 => 611795 | 1 => 12748147 | 2 => 526131 | _ => 67155
def cA : Nat → Int := fun i => match i with | 0 => 2505835 | 1 => 594989 | 2 => 19636 | _ => 525939
def ConR (M : zH) (B : Nat) : Prop := (mR M (B + 13) 0 = some (B + 14) ∧ mR M (B + 13) 1 = some (B + 26)) ∧ (∀ i, i < 9 → mJ M (B + 120) i = jJ (cW i)) ∧ (∀ i, i < 7 → mJ M (B + 121) i = jJ (cO i)) ∧ (∀ i, i < 4 → mJ M (B + 122) i = jJ (cH i)) ∧ ∀ i, i < 4 → mJ M (B + 133) i = jJ (cA i)
def Inv (S : zS) (M : zH) (B : Nat) : Prop := ShOK S B ∧ B + 136 ≤ sZ S ∧ (∃ N Ls, CN S M B (B + 1) N Ls ∧ MN M B N Ls ∧ N 9 0 ≤ 999 ∧ PastR M B N) ∧ ImR S M B 0 ∧ ImR S M B 1 ∧ TapeR M B ∧ MiscR M B ∧ YearR M B ∧ ConR M B
section
variable {S : zS} {M M' : zH} {B : Nat} {N : Nt} {X : Nat → Nat → Prop}
theorem PastR.ag (h : PastR M B N) (hA : zAg X M M') (h63 : ¬ X (B + 63) 1) (h64 : ∀ j, ¬ X (B + 64) j) (h8 : ¬ X (B + 105) 8) (h110 : ∀ j, j < 800 → ¬ X (B + 110) j) (h111 : ∀ j, ¬ X (B + 111) j) : PastR M' B N := by
  obtain ⟨u, d, a, b, g, P, h1, h2, h3, h4⟩ := h
  refine ⟨u, d, a, b, g, P, h1, by rw [(hA _ _ h63).1]; exact h2, by rw [(hA _ _ h8).1]; exact h3, fun i hi => ?_⟩
  obtain ⟨g1, ⟨g2, g3, g4, g5⟩, ⟨g6, g7⟩, g8⟩ := h4 i hi
  refine ⟨g1, ⟨by rw [(hA _ _ (h64 _)).1]; exact g2, by rw [(hA _ _ (h64 _)).1]; exact g3, by rw [(hA _ _ (h64 _)).1]; exact g4, fun k hk => by rw [(hA _ _ (h64 _)).1]; exact g5 k hk⟩, ⟨by rw [(hA _ _ (h111 _)).1]; exact g6, fun k hk => by rw [(hA _ _ (h110 _ (by omega))).1]; exact g7 k hk⟩, g8⟩
theorem PastR.cg {N' : Nt} (h : PastR M B N) (e : snEq N N') : PastR M B N' := by
  obtain ⟨u, d, a, b, g, P, h1, h2, h3, h4⟩ := h
  refine ⟨u, d, a, b, g, P, h1, h2, h3, fun i hi => ?_⟩
  obtain ⟨g1, g2, g3, g4, g5⟩ := h4 i hi
  refine ⟨g1, g2, g3, g4, ?_⟩
  by_cases c : i + 1 = u
  · rw [if_pos c] at g5 ⊢
    exact (bkN_cg e.symm).trans g5
  · rw [if_neg c] at g5 ⊢
    exact g5
theorem PastR.nil (h2 : mI M (B + 63) 1 = iI 0) (h3 : mI M (B + 105) 8 = iI 0) : PastR M B N := ⟨0, fun _ => 0, fun _ => 0, fun _ => 0, fun _ _ => 0, fun _ => N, by decide, h2, h3, fun i hi => by omega⟩
theorem ImR.ag {k : Nat} (h : ImR S M B k) (hk : k < 2) (hA : zAg X M M') (h38 : ¬ X (B + 38) k) (h109 : ¬ X (B + 109) k) (h108 : ∀ j, ¬ X (B + 108) j) (hx : ∀ b j, X b j → b < B + 136 ∧ ¬ (B + iaI k ≤ b ∧ b < B + iaI k + 12)) : ImR S M' B k := by
  rcases h with ⟨h1, h2⟩ | ⟨h1, h2, N, Ls, h3, h4, h5, h6⟩
  · exact Or.inl ⟨by rw [(hA _ _ h38).1]; exact h1, by rw [(hA _ _ h109).1]; exact h2⟩
  · refine Or.inr ⟨by rw [(hA _ _ h38).1]; exact h1, by rw [(hA _ _ h109).1]; exact h2, N, Ls, h3.ag hA hx, h4, h5.cg (fun i _ => (hA _ _ (h108 _)).1), fun j hj hl => (h6 j hj hl).cg (fun i _ _ => (hA _ _ (h108 _)).1)⟩
theorem TapeR.ag (h : TapeR M B) (hA : zAg X M M') (h67 : ¬ X (B + 67) 1) (h68 : ∀ j, ¬ X (B + 68) j) (h13 : ¬ X (B + 105) 13) (h114 : ∀ j, ¬ X (B + 114) j) : TapeR M' B := by
  obtain ⟨l, tb, h1, h2, h3, h4⟩ := h
  exact ⟨l, tb, h1, by rw [(hA _ _ h67).1]; exact h2, by rw [(hA _ _ h13).1]; exact h3, fun k hk => by rw [(hA _ _ (h114 _)).1, (hA _ _ (h68 _)).1]; exact h4 k hk⟩
theorem MiscR.ag (h : MiscR M B) (hA : zAg X M M') (h0 : ∀ j, 15 ≤ j → j < 19 → ¬ X (B + 0) j) (h105 : ∀ j, j = 1 ∨ j = 11 ∨ j = 18 ∨ j = 52 → ¬ X (B + 105) j) (h104 : ∀ j, ¬ X (B + 104) j) (h106 : ∀ j, ¬ X (B + 106) j) : MiscR M' B := by
  obtain ⟨⟨a1, a2, a3, a4⟩, b1, b2, b3, b4, b5⟩ := h
  refine ⟨⟨?_, ?_, ?_, ?_⟩, ?_, ?_, ?_, ?_, ?_⟩
  · rw [(hA _ _ (h0 _ (by omega) (by omega))).1, (hA _ _ (h105 _ (by omega))).1]; exact a1
  · rw [(hA _ _ (h0 _ (by omega) (by omega))).1, (hA _ _ (h105 _ (by omega))).1]; exact a2
  · rw [(hA _ _ (h0 _ (by omega) (by omega))).1, (hA _ _ (h105 _ (by omega))).1]; exact a3
  · rw [(hA _ _ (h0 _ (by omega) (by omega))).1, (hA _ _ (h105 _ (by omega))).1]; exact a4
  · rw [(hA _ _ (h104 _)).1, (hA _ _ (h106 _)).1]; exact b1
  · rw [(hA _ _ (h104 _)).1, (hA _ _ (h106 _)).1]; exact b2
  · rw [(hA _ _ (h104 _)).1, (hA _ _ (h106 _)).1]; exact b3
  · rw [(hA _ _ (h104 _)).1, (hA _ _ (h106 _)).1]; exact b4
  · rw [(hA _ _ (h104 _)).1, (hA _ _ (h106 _)).1]; exact b5
theorem YearR.ag (h : YearR M B) (hA : zAg X M M') (h0 : ¬ X (B + 0) 14) (h56 : ¬ X (B + 105) 56) (h39 : ∀ b j, B + 39 ≤ b → b < B + 51 → ¬ X b j) (h135 : ∀ j, ¬ X (B + 135) j) : YearR M' B := by
  rcases h with ⟨h1, h2⟩ | ⟨h1, N, h2, h3, h4, h5, h6⟩
  · exact Or.inl ⟨by rw [(hA _ _ h0).1]; exact h1, by rw [(hA _ _ h56).1]; exact h2⟩
  · refine Or.inr ⟨by rw [(hA _ _ h0).1]; exact h1, N, h2, h3.ag hA (fun b j q1 q2 => h39 b j (by omega) (by omega)), by rw [(hA _ _ h56).1]; exact h4, fun r hr => by rw [(hA _ _ (h135 _)).1, (hA _ _ (h135 _)).1]; exact h5 r hr, fun b hb => by rw [(hA _ _ (h135 _)).1]; exact h6 b hb⟩
theorem ConR.ag (h : ConR M B) (hA : zAg X M M') (h13 : ∀ j, ¬ X (B + 13) j) (h120 : ∀ b j, b = B + 120 ∨ b = B + 121 ∨ b = B + 122 ∨ b = B + 133 → ¬ X b j) : ConR M' B := by
  obtain ⟨⟨a1, a2⟩, a3, a4, a5, a6⟩ := h
  exact ⟨⟨by rw [(hA _ _ (h13 _)).2.2]; exact a1, by rw [(hA _ _ (h13 _)).2.2]; exact a2⟩, fun i hi => by rw [(hA _ _ (h120 _ _ (by omega))).2.1]; exact a3 i hi, fun i hi => by rw [(hA _ _ (h120 _ _ (by omega))).2.1]; exact a4 i hi, fun i hi => by rw [(hA _ _ (h120 _ _ (by omega))).2.1]; exact a5 i hi, fun i hi => by rw [(hA _ _ (h120 _ _ (by omega))).2.1]; exact a6 i hi⟩
/-- what queries change -/
def cQ (B : Nat) : Nat → Nat → Prop := fun b _ => b = B + 78 ∨ b = B + 79 ∨ (B + 85 ≤ b ∧ b ≤ B + 103)
def mQ (B : Nat) : Nat → Nat → Prop := fun b j => (b = B + 105 ∧ (j = 0 ∨ j = 34 ∨ j = 38 ∨ j = 39 ∨ j = 40)) ∨ (b = B + 110 ∧ 800 ≤ j) ∨ (B + 123 ≤ b ∧ b ≤ B + 132)
def qX (B : Nat) : Nat → Nat → Prop := fun b j => cQ B b j ∨ mQ B b j
theorem Inv.q (h : Inv S M B) (hA : zAg (qX B) M M') : Inv S M' B := by
  obtain ⟨h1, h2, ⟨N, Ls, hC, hM, hh, hP⟩, hI0, hI1, hT, hMi, hY, hCo⟩ := h
  have hx : ∀ b j, qX B b j → b < B + 136 ∧ ¬ (B ≤ b ∧ b < B + 78) ∧ ¬ (b = B + 104) ∧ ¬ (b = B + 106) ∧ ¬ (b = B + 107) ∧ ¬ (b = B + 108) ∧ ¬ (b = B + 109) ∧ ¬ (b = B + 111) ∧ ¬ (b = B + 114) ∧ ¬ (b = B + 120) ∧ ¬ (b = B + 121) ∧ ¬ (b = B + 122) ∧ ¬ (b = B + 133) ∧ ¬ (b = B + 135) := by
    intro b j hq; unfold qX cQ mQ at hq; omega
  refine ⟨h1, h2, ⟨N, Ls, hC.ag hA (fun b j q => by have := hx b j q; omega), hM.ag hA (fun j q => by have := hx _ j q; omega) (fun q => by unfold qX cQ mQ at q; omega), hh, hP.ag hA (fun q => by have := hx _ _ q; omega) (fun j q => by have := hx _ _ q; omega) (fun q => by unfold qX cQ mQ at q; omega) (fun j hj q => by unfold qX cQ mQ at q; omega) (fun j q => by have := hx _ _ q; omega)⟩, hI0.ag (by decide) hA (fun q => by have := hx _ _ q; omega) (fun q => by have := hx _ _ q; omega) (fun j q => by have := hx _ _ q; omega) (fun b j q => ?_), hI1.ag (by decide) hA (fun q => by have := hx _ _ q; omega) (fun q => by have := hx _ _ q; omega) (fun j q => by have := hx _ _ q; omega) (fun b j q => ?_), hT.ag hA (fun q => by have := hx _ _ q; omega) (fun j q => by have := hx _ _ q; omega) (fun q => by unfold qX cQ mQ at q; omega) (fun j q => by have := hx _ _ q; omega), hMi.ag hA (fun j _ _ q => by have := hx _ _ q; omega) (fun j _ q => by unfold qX cQ mQ at q; omega) (fun j q => by have := hx _ _ q; omega) (fun j q => by have := hx _ _ q; omega), hY.ag hA (fun q => by have := hx _ _ q; omega) (fun q => by unfold qX cQ mQ at q; omega) (fun b j q1 q2 q => by have := hx _ _ q; omega) (fun j q => by have := hx _ _ q; omega), hCo.ag hA (fun j q => by have := hx _ _ q; omega) (fun b j hb q => by have := hx _ _ q; omega)⟩
  · have := hx b j q
    have e : iaI 0 = 14 := rfl
    rw [e]; omega
  · have := hx b j q
    have e : iaI 1 = 26 := rfl
    rw [e]; omega
end
