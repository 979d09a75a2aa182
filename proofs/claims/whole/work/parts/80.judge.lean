/-! THE CLASS'S JUDGE -/
section
variable {n : Nat} {E : zE} {S : zS} {M : zH} {B : Nat}
theorem s_minI {x y : Int} (hx : zR x) (hy : zR y) : F_Jm_min n E S (iI x) (iI y) M = some (iI (min x y), M) := by
  rw [s_min]
  congr 2
  simp only [xlt (x := y) (y := x) hy.1 hy.2 hx.1 hx.2]
  by_cases c : y < x
  · rw [if_pos c, Int.min_eq_right (by omega)]
  · rw [if_neg c, Int.min_eq_left (by omega)]
theorem s_maxI {x y : Int} (hx : zR x) (hy : zR y) : F_Jm_max n E S (iI x) (iI y) M = some (iI (max x y), M) := by
  rw [s_max]
  congr 2
  simp only [xlt (x := x) (y := y) hx.1 hx.2 hy.1 hy.2]
  by_cases c : x < y
  · rw [if_pos c, Int.max_eq_right (by omega)]
  · rw [if_neg c, Int.max_eq_left (by omega)]
theorem s_work {mc t wq q ts len nw : Nat} {st w : Nat → Int} (hm : McS S mc q) (hq1 : t ≠ q) (hq2 : ts ≠ q) (hq3 : wq ≠ q) (hSt : StR S M t ts len st) (hW : WdR S M wq nw w) {p0 p1 : Nat} (h0 : p0 ≤ 400) (h1 : p1 ≤ 400) (hn : 600 ≤ n) :
    ∃ M', F_Mc_work n E S mc t (iI (p0 : Int)) (iI (p1 : Int)) wq M = some (bkC (rC st nw w (min p1 len) 500 p0 []), M') ∧ zAg (fun b _ => b = q) M M' := by
  have hlen : len ≤ 400 := by have := hSt.2.2.2.1; have := hSt.2.2.2.2.1; omega
  unfold F_Mc_work
  simp only [pz_gI hSt.1, Option.bind_some, hSt.2.2.2.2.2.1]
  have hend : ∀ b : Nat, b = min p1 len → ∃ M', F_Mc_work_b19 n E S mc t (iI (p0 : Int)) wq (-1) (iI (b : Int)) M = some (bkC (rC st nw w (min p1 len) 500 p0 []), M') ∧ zAg (fun b _ => b = q) M M' := by
    intro b hb
    subst hb
    have key : ∃ M', F_Mc_work_b32 n E S (mc, t, wq, -1, iI ((min p1 len : Nat) : Int), iI (p0 : Int), M) = some (bkC (rC st nw w (min p1 len) 500 p0 []), M') ∧ zAg (fun b _ => b = q) M M' := by
      unfold F_Mc_work_b32
      exact work_run hm hq1 hq2 hq3 (by omega) 500 n p0 [] M (by omega) (by omega) hSt hW trivial (by simp) (by omega)
    unfold F_Mc_work_b19 F_Mc_work_b30
    by_cases c : iI (p0 : Int) ≤ 0
    · rw [if_pos c]
      rw [iL0, xle (by omega) (by omega) (by omega) (by omega)] at c
      have hz : (0 : Int32) = iI (p0 : Int) := by rw [show (p0 : Int) = 0 by omega]; exact iL0
      rw [hz]
      exact key
    · rw [if_neg c]
      exact key
  by_cases c : iI (len : Int) ≤ iI (p1 : Int)
  · rw [if_pos c]
    rw [xle (by omega) (by omega) (by omega) (by omega)] at c
    exact hend len (by omega)
  · rw [if_neg c]
    rw [xle (by omega) (by omega) (by omega) (by omega)] at c
    exact hend p1 (by omega)
/-- a text of the class in the heap: steps, clauses: kinds, times, words, marks -/
def TxC (S : zS) (M : zH) (t len : Nat) (st : Nat → Int) (nc : Nat) (kd tm wm : Nat → Int) (mk : Nat → Nat → Nat) : Prop :=
  StR S M t (t + 1) len st ∧ (∀ f, f < 5 → sF S t f = some (t + 1 + f) ∧ sK S (t + 1 + f) = 12) ∧ (sN S (t + 2) = 12 ∧ sN S (t + 3) = 12 ∧ sN S (t + 4) = 12 ∧ sN S (t + 5) = 48) ∧ mI M t 6 = iI (nc : Int) ∧ nc ≤ 12 ∧
  (∀ c, c < nc → mI M (t + 2) c = iI (kd c) ∧ mI M (t + 3) c = iI (tm c) ∧ mI M (t + 4) c = iI (wm c) ∧ 0 ≤ kd c ∧ kd c ≤ 3 ∧ 0 ≤ tm c ∧ tm c ≤ 20 ∧ 0 ≤ wm c ∧ wm c < 1000000) ∧ (∀ c, c < nc → ∀ p, p < 4 → mI M (t + 5) (4 * c + p) = iI (mk c p : Int) ∧ mk c p ≤ 400)
theorem StR.ag' {X : Nat → Nat → Prop} {M' : zH} {t ts len : Nat} {st : Nat → Int} (h : StR S M t ts len st) (hA : zAg X M M') (h1 : ∀ j, ¬ X t j) (h2 : ∀ j, ¬ X ts j) : StR S M' t ts len st :=
  ⟨h.1, h.2.1, h.2.2.1, h.2.2.2.1, h.2.2.2.2.1, by rw [(hA _ _ (h1 _)).1]; exact h.2.2.2.2.2.1, fun i hi => by rw [(hA _ _ (h2 _)).1]; exact h.2.2.2.2.2.2 i hi⟩
theorem TxC.ag {X : Nat → Nat → Prop} {M' : zH} {t len nc : Nat} {st kd tm wm : Nat → Int} {mk : Nat → Nat → Nat} (h : TxC S M t len st nc kd tm wm mk) (hA : zAg X M M') (hx : ∀ b j, t ≤ b → b < t + 6 → ¬ X b j) : TxC S M' t len st nc kd tm wm mk := by
  obtain ⟨h1, h2, h3, h4, h5, h6, h7⟩ := h
  refine ⟨h1.ag' hA (fun j => hx _ _ (by omega) (by omega)) (fun j => hx _ _ (by omega) (by omega)), h2, h3, ?_, h5, fun c hc => ?_, fun c hc p hp => ?_⟩
  · rw [(hA _ _ (hx _ _ (by omega) (by omega))).1]; exact h4
  · rw [(hA _ _ (hx (t + 2) _ (by omega) (by omega))).1, (hA _ _ (hx (t + 3) _ (by omega) (by omega))).1, (hA _ _ (hx (t + 4) _ (by omega) (by omega))).1]; exact h6 c hc
  · rw [(hA _ _ (hx (t + 5) _ (by omega) (by omega))).1]; exact h7 c hc p hp
theorem s_markOf {t len nc : Nat} {st kd tm wm : Nat → Int} {mk : Nat → Nat → Nat} (h : TxC S M t len st nc kd tm wm mk) {c p : Nat} (hc : c < nc) (hp : p < 4) : F_Te_markOf n E S t (iI (c : Int)) (iI (p : Int)) M = some (iI (mk c p : Int), M) := by
  obtain ⟨h1, h2, h3, h4, h5, h6, h7⟩ := h
  have e := (h7 c hc p hp).1
  unfold F_Te_markOf
  rw [pz_gR h1.1 (h2 4 (by decide)).1, Option.bind_some, pz_len (h2 4 (by decide)).2 h3.2.2.2, Option.bind_some, ← iI_nat]
  simp (disch := omega) only [iL4, iL0, iI_mul, iI_add, xlt, xle, if_neg]
  rw [pi_ldI (h2 4 (by decide)).2 h3.2.2.2 (by omega) (by omega) (by decide), Option.bind_some, show ((c : Int) * 4 + p).toNat = 4 * c + p by omega]
  rw [show t + 1 + 4 = t + 5 by omega, e]
/-- what the clauses of a kind tell: the last one that does -/
def ltell (kd : Nat → Int) (cv : Nat → (Nat → Int) → Option Int) (kind : Int) (w : Nat → Int) : Nat → Option Int
  | 0 => none
  | c + 1 => if kd c = kind then (match cv c w with
    | some v => some v
    | none => ltell kd cv kind w c) else ltell kd cv kind w c
/-- what a clause of the class's text tells -/
def cvC (st : Nat → Int) (len : Nat) (kd : Nat → Int) (mk : Nat → Nat → Nat) (c : Nat) (w : Nat → Int) : Option Int :=
  if mk c 2 < mk c 3 ∧ rC st 9 w (min (mk c 3) len) 500 (mk c 2) [] ≠ some 1 then none
  else if kd c = 3 then some 1 else rC st 9 w (min (mk c 1) len) 500 (mk c 0) []
/-- a law: how many clauses, their kinds, what they tell -/
abbrev Lw : Type := Nat × (Nat → Int) × (Nat → (Nat → Int) → Option Int)
def lwT (L : Lw) (kind : Int) (w : Nat → Int) : Option Int := ltell L.2.1 L.2.2 kind w L.1
def TxR (S : zS) (M : zH) (t : Nat) (L : Lw) : Prop := ∃ len st nc kd tm wm mk, TxC S M t len st nc kd tm wm mk ∧ L.1 = nc ∧ (∀ c, c < nc → L.2.1 c = kd c) ∧ (∀ c, c < nc → ∀ w, L.2.2 c w = cvC st len kd mk c w)
theorem TxR.ag {X : Nat → Nat → Prop} {M' : zH} {t : Nat} {L : Lw} (h : TxR S M t L) (hA : zAg X M M') (hx : ∀ b j, t ≤ b → b < t + 6 → ¬ X b j) : TxR S M' t L := by
  obtain ⟨len, st, nc, kd, tm, wm, mk, h1, h2⟩ := h
  exact ⟨len, st, nc, kd, tm, wm, mk, h1.ag hA hx, h2⟩
def clp (v most : Int) : Int := max 0 (min v most)
def tvC (plain most : Int) (r : Option Int) : Int := match r with
  | none => plain
  | some v => clp v most
def cScr (B : Nat) : Nat → Nat → Prop := fun b _ => b = B + 78 ∨ b = B + 79
theorem ShOK.mc {S : zS} {B : Nat} (h : ShOK S B) : McS S (B + 77) (B + 78) := ⟨h.k 77 (by decide), h.f 77 0 (by decide) (by decide), h.k 78 (by decide), h.n 78 (by decide)⟩
/-- within what a sum can be -/
def zB (x : Int) : Prop := -1000000000 ≤ x ∧ x ≤ 1000000000
theorem zB.r {x : Int} (h : zB x) : zR x := zR_of h.1 h.2
theorem rC_ge {st : Nat → Int} {nw : Nat} {w : Nat → Int} {beh : Nat} (hw : ∀ i, i < nw → zB (w i)) (hst : ∀ i, i < beh → 0 ≤ st i ∧ st i < 100000) : ∀ (k p : Nat) (s : List Int), (∀ v ∈ s, zB v) → ∀ v, rC st nw w beh k p s = some v → zB v := by
  intro k
  induction k with
  | zero => intro p s _ v h; unfold rC at h; cases h
  | succ k ih =>
    intro p s hs v h
    unfold rC at h
    split at h
    · rcases s with _ | ⟨a, _ | ⟨b, s⟩⟩
      · cases h
      · cases h; exact hs v (by simp)
      · cases h
    rename_i hb
    have hst := hst p (by omega)
    split at h
    · split at h
      · cases h
      · exact ih _ _ (fun u hu => by
          rcases List.mem_cons.mp hu with rfl | hu
          · exact ⟨by omega, by omega⟩
          · exact hs u hu) v h
    split at h
    · split at h
      · cases h
      split at h
      · cases h
      · rename_i q; exact ih _ _ (fun u hu => by
          rcases List.mem_cons.mp hu with rfl | hu
          · exact hw _ (by omega)
          · exact hs u hu) v h
    rcases s with _ | ⟨b, s1⟩
    · cases h
    have hs1 : ∀ u ∈ s1, zB u := fun u hu => hs u (List.mem_cons_of_mem _ hu)
    simp only at h
    split at h
    · exact ih _ _ (fun u hu => by
          rcases List.mem_cons.mp hu with rfl | hu
          · split <;> exact ⟨by omega, by omega⟩
          · exact hs1 u hu) v h
    split at h
    · split at h
      · exact ih _ _ hs v h
      · exact ih _ _ hs1 v h
    split at h
    · split at h
      · exact ih _ _ hs v h
      · exact ih _ _ hs1 v h
    rcases s1 with _ | ⟨a, s2⟩
    · cases h
    simp only at h
    split at h
    · cases h
    · rename_i u hu
      have := cRg_zR hu
      exact ih _ _ (fun x hx => by
          rcases List.mem_cons.mp hx with rfl | hx
          · exact ⟨by omega, by omega⟩
          · exact hs1 x (List.mem_cons_of_mem _ hx)) v h

/-- told: from the last clause on -/
theorem s_toldL {t a : Nat} {L : Lw} {kind plain most : Int} {w : Nat → Int} (hS : ShOK S B) (ht : B + 136 ≤ t) (hk0 : 0 ≤ kind) (hk1 : kind ≤ 3) (hm0 : 1 ≤ most) (hm1 : most ≤ 99) (hn : 600 ≤ n) :
    ∀ (c kk : Nat) (M : zH), c ≤ L.1 → c < kk → TxR S M t L → WdR S M (B + 79) 9 w → (∀ i, i < 9 → zB (w i)) →
    ∃ M', zfix (fun r47 s => F_Ju_told_L47 n E S r47 s.1 s.2.1 s.2.2.1 s.2.2.2.1 s.2.2.2.2.1 s.2.2.2.2.2.1 s.2.2.2.2.2.2) kk (B + 76, t, iI kind, iI plain, iI most, iI ((c : Int) - 1), M) = some (iI (tvC plain most (ltell L.2.1 L.2.2 kind w c)), M') ∧ zAg (cScr B) M M' := by
  intro c
  induction c with
  | zero =>
    intro kk M hc hkk hT hW hwb
    obtain ⟨kk, rfl⟩ : ∃ j, kk = j + 1 := ⟨kk - 1, by omega⟩
    rw [zfix_s]
    refine ⟨M, ?_, zAg.rfl'⟩
    show F_Ju_told_L47 n E S _ (B + 76) t (iI kind) (iI plain) (iI most) (iI (((0 : Nat) : Int) - 1)) M = _
    unfold F_Ju_told_L47
    rw [if_pos (by rw [iL0, xlt (by decide) (by decide) (by decide) (by decide)]; decide)]
    rfl
  | succ c ih =>
    intro kk M hc hkk hT hW hwb
    obtain ⟨kk, rfl⟩ : ∃ j, kk = j + 1 := ⟨kk - 1, by omega⟩
    rw [zfix_s]
    have ihk := fun M => ih kk M (by omega) (by omega)
    generalize zfix (fun r47 s => F_Ju_told_L47 n E S r47 s.1 s.2.1 s.2.2.1 s.2.2.2.1 s.2.2.2.2.1 s.2.2.2.2.2.1 s.2.2.2.2.2.2) kk = rec at ihk ⊢
    show ∃ M', F_Ju_told_L47 n E S rec (B + 76) t (iI kind) (iI plain) (iI most) (iI (((c + 1 : Nat) : Int) - 1)) M = _ ∧ _
    rw [show (((c + 1 : Nat) : Int) - 1) = (c : Int) by omega]
    have hxs : ∀ b j, t ≤ b → b < t + 6 → ¬ cScr B b j := fun b j h1 h2 h3 => by rcases h3 with h3 | h3 <;> omega
    have hgo : ∀ M1, zAg (fun b _ => b = B + 78) M M1 → ∃ M', F_Ju_told_b168 n E S rec (B + 76) t (iI kind) (iI plain) (iI most) (iI (c : Int)) M1 = some (iI (tvC plain most (ltell L.2.1 L.2.2 kind w c)), M') ∧ zAg (cScr B) M M' := by
      intro M1 hA
      have hA' : zAg (cScr B) M M1 := hA.mono (fun b j h => Or.inl h)
      obtain ⟨M', e, h2⟩ := ihk M1 (hT.ag hA' hxs) (hW.ag hA (by omega)) hwb
      refine ⟨M', ?_, hA'.trans h2⟩
      unfold F_Ju_told_b168
      rw [iLm1, iI_add, ← e]
      rfl
    obtain ⟨len, st, nc, kd, tm, wm, mk, hX, e1, e2, e3⟩ := hT
    have hcn : c < nc := by omega
    obtain ⟨hX1, hX2, hX3, hX4, hX5, hX6, hX7⟩ := id hX
    have hkd := hX6 c hcn
    unfold F_Ju_told_L47
    rw [if_neg (by rw [iL0, xlt (by omega) (by omega) (by decide) (by decide)]; omega), pz_gR hX1.1 (hX2 1 (by decide)).1, Option.bind_some, pi_ldI (hX2 1 (by decide)).2 hX3.1 (by omega) (by omega) (by decide), Option.bind_some, Int.toNat_natCast, show t + 1 + 1 = t + 2 by omega, hkd.1]
    simp only [xeq (x := kd c) (y := kind) (by omega) (by omega) (by omega) (by omega)]
    unfold ltell
    rw [e2 c hcn, e3 c hcn w]
    by_cases ck : ¬ kd c = kind
    · rw [if_neg ck, if_neg ck]
      exact hgo M zAg.rfl'
    have ck := Classical.not_not.mp ck
    rw [if_pos ck, if_pos ck, show (2 : Int32) = iI ((2 : Nat) : Int) from rfl, s_markOf hX hcn (by decide), Option.bind_some]
    show ∃ M', ((F_Te_markOf n E S t (iI (c : Int)) 3 M).bind _) = _ ∧ _
    rw [show (3 : Int32) = iI ((3 : Nat) : Int) from rfl, s_markOf hX hcn (by decide), Option.bind_some]
    have hmk := fun p hp => (hX7 c hcn p hp).2
    have h2 := hmk 2 (by decide)
    have h3 := hmk 3 (by decide)
    have h0 := hmk 0 (by decide)
    have h1 := hmk 1 (by decide)
    have hst : ∀ i, i < len → 0 ≤ st i ∧ st i < 100000 := fun i hi => (hX1.2.2.2.2.2.2 i hi).2
    -- behind the test
    have hbeh : ∀ M1, zAg (fun b _ => b = B + 78) M M1 → ∃ M', F_Ju_told_b114 n E S rec (B + 76) t (iI kind) (iI plain) (iI most) (iI (c : Int)) M1 = some (iI (tvC plain most (match (if kd c = 3 then some 1 else rC st 9 w (min (mk c 1) len) 500 (mk c 0) []) with
        | some v => some v
        | none => ltell L.2.1 L.2.2 kind w c)), M') ∧ zAg (cScr B) M M' := by
      intro M1 hA
      have hA' : zAg (cScr B) M M1 := hA.mono (fun b j h => Or.inl h)
      have hX' := hX.ag hA' hxs
      unfold F_Ju_told_b114
      by_cases c3 : kind = 3
      · rw [if_pos (by rw [c3]; rfl), if_pos (by omega)]
        refine ⟨M1, ?_, hA'⟩
        congr 2
        show (1 : Int32) = iI (clp 1 most)
        rw [show clp 1 most = 1 by unfold clp; omega]
        rfl
      · rw [if_neg (by rw [show (3 : Int32) = iI 3 from rfl, xeq (by omega) (by omega) (by decide) (by decide)]; exact c3), if_neg (by omega), hS.g76_0, Option.bind_some, pz_ck hX1.1, Option.bind_some, show (0 : Int32) = iI ((0 : Nat) : Int) from rfl, s_markOf hX' hcn (by decide), Option.bind_some]
        show ∃ M', ((F_Te_markOf n E S t (iI (c : Int)) 1 M1).bind _) = _ ∧ _
        rw [show (1 : Int32) = iI ((1 : Nat) : Int) from rfl, s_markOf hX' hcn (by decide), Option.bind_some, hS.g76_1, Option.bind_some, hS.ck77, Option.bind_some]
        obtain ⟨M2, ew, hA2⟩ := s_work (n := n) (E := E) hS.mc (show t ≠ B + 78 by omega) (show t + 1 ≠ B + 78 by omega) (show B + 79 ≠ B + 78 by omega) hX'.1 (hW.ag hA (by omega)) h0 h1 hn
        show ∃ M', ((F_Mc_work n E S (B + 77) t (iI (mk c 0 : Int)) (iI (mk c 1 : Int)) (B + 79) M1).bind _) = _ ∧ _
        rw [ew, Option.bind_some]
        have hv := rC_ge (beh := min (mk c 1) len) hwb (fun i hi => hst i (by omega)) 500 (mk c 0) [] (by simp)
        cases hr : rC st 9 w (min (mk c 1) len) 500 (mk c 0) [] with
        | none =>
          rw [if_pos (by rfl)]
          exact hgo M2 (hA.trans hA2)
        | some v =>
          have hv := hv v hr
          show ∃ M', (if iI v = -2147483648 then _ else _) = _ ∧ _
          rw [if_neg (by rw [iLmin, xeq (by have := hv.1; omega) (by have := hv.2; omega) (by decide) (by decide)]; have := hv.1; omega)]
          show ∃ M', ((F_Jm_min n E S (iI v) (iI most) M2).bind _) = _ ∧ _
          rw [s_minI hv.r (zR_of (by omega) (by omega)), Option.bind_some]
          show ∃ M', ((F_Jm_max n E S (iI 0) (iI (min v most)) M2).bind _) = _ ∧ _
          rw [s_maxI (zR_of (by omega) (by omega)) (by have := hv.1; have := hv.2; exact zR_of (by omega) (by omega)), Option.bind_some]
          exact ⟨M2, rfl, hA'.trans (hA2.mono (fun b j h => Or.inl h))⟩
    show ∃ M', (if iI (mk c 3 : Int) ≤ iI (mk c 2 : Int) then _ else _) = _ ∧ _
    simp only [xle (x := (mk c 3 : Int)) (y := (mk c 2 : Int)) (by omega) (by omega) (by omega) (by omega)]
    unfold cvC
    by_cases ct : (mk c 3 : Int) ≤ (mk c 2 : Int)
    · rw [if_pos ct, if_neg (fun q => by have := q.1; omega)]
      exact hbeh M zAg.rfl'
    · rw [if_neg ct, hS.g76_0, Option.bind_some, hS.g76_1, Option.bind_some, hS.ck77, Option.bind_some]
      obtain ⟨M2, ew, hA2⟩ := s_work (n := n) (E := E) hS.mc (show t ≠ B + 78 by omega) (show t + 1 ≠ B + 78 by omega) (show B + 79 ≠ B + 78 by omega) hX1 hW h2 h3 hn
      rw [ew, Option.bind_some]
      have hv := rC_ge (beh := min (mk c 3) len) hwb (fun i hi => hst i (by omega)) 500 (mk c 2) [] (by simp)
      cases hr : rC st 9 w (min (mk c 3) len) 500 (mk c 2) [] with
      | none =>
        rw [if_neg (show ¬ bkC none = 1 by decide), if_pos ⟨by omega, by simp⟩]
        exact hgo M2 hA2
      | some v =>
        have hv := hv v hr
        show ∃ M', (if iI v = 1 then _ else _) = _ ∧ _
        simp only [iL1, xeq (x := v) (y := 1) (by have := hv.1; omega) (by have := hv.2; omega) (by decide) (by decide)]
        by_cases c1 : v = 1
        · subst c1
          rw [if_pos rfl, if_neg (by simp)]
          exact hbeh M2 hA2
        · rw [if_neg c1, if_pos ⟨by omega, by simp [c1]⟩]
          exact hgo M2 hA2
end
