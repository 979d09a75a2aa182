/-! law and orders: which word -/
def ixK (C : Nat → Int) (w : Int) : Nat → Int
  | 0 => -1
  | k + 1 => if w = C k then (k : Int) else ixK C w k
def ixL (w : Int) : List Int → Int → Int
  | [], _ => -1
  | c :: t, k => if w = c then k else ixL w t (k + 1)
theorem ixK_none {C : Nat → Int} {w : Int} : ∀ k, (∀ j, j < k → w ≠ C j) → ixK C w k = -1 := by
  intro k
  induction k with
  | zero => intro _; rfl
  | succ k ih => intro h; show (if w = C k then (k : Int) else ixK C w k) = -1; rw [if_neg (h k (by omega)), ih (fun j hj => h j (by omega))]
theorem ixL_none {w : Int} : ∀ (cs : List Int) (k : Int), (∀ c ∈ cs, w ≠ c) → ixL w cs k = -1 := by
  intro cs
  induction cs with
  | nil => intro k _; rfl
  | cons c t ih => intro k h; show (if w = c then k else ixL w t (k + 1)) = -1; rw [if_neg (h c (List.mem_cons_self ..)), ih _ (fun d hd => h d (List.mem_cons_of_mem _ hd))]
theorem ixK_b {C : Nat → Int} {w : Int} : ∀ k : Nat, -1 ≤ ixK C w k ∧ ixK C w k < k := by
  intro k
  induction k with
  | zero => exact ⟨Int.le_refl (-1), show (-1 : Int) < 0 by decide⟩
  | succ k ih =>
    show -1 ≤ (if w = C k then (k : Int) else ixK C w k) ∧ (if w = C k then (k : Int) else ixK C w k) < ((k + 1 : Nat) : Int)
    split <;> omega
theorem ixKL {C : Nat → Int} {w : Int} {K : Nat} (h : ∀ k, k < K → ixK C (C k) K = ixL (C k) ((List.range K).map C) 0) : ixK C w K = ixL w ((List.range K).map C) 0 := by
  by_cases c : ∃ k, k < K ∧ w = C k
  · obtain ⟨k, hk, e⟩ := c
    rw [e]; exact h k hk
  · rw [ixK_none K (fun j hj e => c ⟨j, hj, e⟩), ixL_none _ _ (fun d hd e => by
      obtain ⟨j, hj, ej⟩ := List.mem_map.mp hd
      exact c ⟨j, List.mem_range.mp hj, by rw [e, ej]⟩)]
/-- the class's list by the hashes -/
def hL (i : Nat) : List (Nat × Nat) → List Int
  | [] => []
  | w :: t => hV (fun j => lc i (w.1 + j)) (w.2 - w.1) :: hL i t
theorem ixWL {tb : Nat → Int} {l s i : Nat} (hs : s ≤ l) (hk : kdT tb l s = 1) : ∀ (wl : List (Nat × Nat)) (p : Nat) (k : Int), wlOK i wl p → (∀ w ∈ wl, w.2 ≤ w.1 + 10) → ixW tb l s i wl k = ixL (wT tb l s) (hL i wl) k := by
  intro wl
  induction wl with
  | nil => intro p k _ _; rfl
  | cons w t ih =>
    intro p k h h10
    obtain ⟨g1, g2, g3, g4, g5, g6⟩ := h
    have e := hW_iff (tb := tb) hs hk (i := i) (a := w.1) (b := w.2) g2 (h10 w (List.mem_cons_self ..)) (fun j q1 q2 => g4 j q2 q1)
    show (if smW tb l s i w.1 w.2 = true then k else ixW tb l s i t (k + 1)) = (if wT tb l s = hV (fun j => lc i (w.1 + j)) (w.2 - w.1) then k else ixL (wT tb l s) (hL i t) (k + 1))
    rw [ih _ _ g6 (fun d hd => h10 d (List.mem_cons_of_mem _ hd))]
    by_cases z : smW tb l s i w.1 w.2 = true
    · rw [if_pos z, if_pos (e.mpr z)]
    · rw [if_neg z, if_neg (fun q => z (e.mp q))]
theorem ix5 {tb : Nat → Int} {l s : Nat} (hs : s ≤ l) (hk : kdT tb l s = 1) : ixW tb l s 5 wl5 0 = ixK cW (wT tb l s) 9 := by
  rw [ixWL hs hk wl5 0 0 wl_ok.2.2.2 (by decide), ixKL (C := cW) (K := 9) (by decide +kernel), show hL 5 wl5 = (List.range 9).map cW by decide +kernel]
theorem ix4 {tb : Nat → Int} {l s : Nat} (hs : s ≤ l) (hk : kdT tb l s = 1) : ixW tb l s 4 wl4 0 = ixK cO (wT tb l s) 7 := by
  rw [ixWL hs hk wl4 0 0 wl_ok.2.2.1 (by decide), ixKL (C := cO) (K := 7) (by decide +kernel), show hL 4 wl4 = (List.range 7).map cO by decide +kernel]
theorem ix1 {tb : Nat → Int} {l s : Nat} (hs : s ≤ l) (hk : kdT tb l s = 1) : ixW tb l s 1 wl1 0 = ixK cH (wT tb l s) 4 := by
  rw [ixWL hs hk wl1 0 0 wl_ok.2.1 (by decide), ixKL (C := cH) (K := 4) (by decide +kernel), show hL 1 wl1 = (List.range 4).map cH by decide +kernel]
theorem ix0 {tb : Nat → Int} {l s : Nat} (hs : s ≤ l) (hk : kdT tb l s = 1) : ixW tb l s 0 wl0 0 = ixK cA (wT tb l s) 4 := by
  rw [ixWL hs hk wl0 0 0 wl_ok.1 (by decide), ixKL (C := cA) (K := 4) (by decide +kernel), show hL 0 wl0 = (List.range 4).map cA by decide +kernel]
/-- which word, on either side -/
def wix (tb : Nat → Int) (l s : Nat) (C : Nat → Int) (k : Nat) : Int := if kdT tb l s = 1 then ixK C (wT tb l s) k else -1
theorem wix_s {tb : Nat → Int} {l s : Nat} {C : Nat → Int} {k : Nat} : wix tb l s C (k + 1) = if kdT tb l s = 1 ∧ wT tb l s = C k then (k : Int) else wix tb l s C k := by
  unfold wix
  by_cases c : kdT tb l s = 1
  · rw [if_pos c, if_pos c]
    show (if wT tb l s = C k then (k : Int) else ixK C (wT tb l s) k) = _
    by_cases d : wT tb l s = C k
    · rw [if_pos d, if_pos ⟨c, d⟩]
    · rw [if_neg d, if_neg (fun q => d q.2)]
  · rw [if_neg c, if_neg c, if_neg (fun q => c q.1)]
theorem wix_b {tb : Nat → Int} {l s : Nat} {C : Nat → Int} {k : Nat} : -1 ≤ wix tb l s C k ∧ wix tb l s C k < k ∨ wix tb l s C k = -1 := by
  unfold wix
  have := ixK_b (C := C) (w := wT tb l s) k
  by_cases c : kdT tb l s = 1
  · rw [if_pos c]; exact Or.inl this
  · rw [if_neg c]; exact Or.inr rfl
theorem wix_0 {tb : Nat → Int} {l s : Nat} {C : Nat → Int} : wix tb l s C 0 = -1 := by unfold wix; split <;> rfl
/-- the token is the one word whose hash is C -/
def wis (tb : Nat → Int) (l s : Nat) (C : Int) : Bool := decide (kdT tb l s = 1 ∧ wT tb l s = C)
theorem isWd_wis {tb : Nat → Int} {l s : Nat} (hs : s ≤ l) {i : Nat} {C : Int} (h10 : (zLit i).length ≤ 10) (hc : ∀ j, j < (zLit i).length → 97 ≤ lc i j ∧ lc i j ≤ 122) (hC : hV (fun j => lc i (0 + j)) ((zLit i).length - 0) = C) : isWd tb l s i = wis tb l s C := by
  unfold isWd wis
  by_cases c : kdT tb l s = 1
  · have e := hW_iff (tb := tb) hs c (i := i) (a := 0) (b := (zLit i).length) (Nat.zero_le _) (by omega) (fun j _ q => hc j q)
    rw [hC] at e
    rw [decide_eq_true c, Bool.true_and]
    by_cases d : wT tb l s = C
    · rw [e.mp d, decide_eq_true ⟨c, d⟩]
    · rw [Bool.eq_false_iff.mpr (fun q => d (e.mpr q)), decide_eq_false (fun q => d q.2)]
  · rw [decide_eq_false c, Bool.false_and, decide_eq_false (fun q => c q.1)]
section
variable {n : Nat} {E : zE} {S : zS} {M M' : zH} {B : Nat} {tb : Nat → Int} {l : Nat}
/-- at, of, times, if, not, and, or -/
theorem wd_all {s : Nat} (hs : s ≤ l) : isWd tb l s 2 = wis tb l s 52 ∧ isWd tb l s 3 = wis tb l s 486 ∧ isWd tb l s 8 = wis tb l s 21279923 ∧ isWd tb l s 9 = wis tb l s 294 ∧ isWd tb l s 10 = wis tb l s 14836 ∧ isWd tb l s 12 = wis tb l s 1476 ∧ isWd tb l s 13 = wis tb l s 498 :=
  ⟨isWd_wis hs (by decide) (by decide +kernel) (by decide +kernel), isWd_wis hs (by decide) (by decide +kernel) (by decide +kernel), isWd_wis hs (by decide) (by decide +kernel) (by decide +kernel), isWd_wis hs (by decide) (by decide +kernel) (by decide +kernel), isWd_wis hs (by decide) (by decide +kernel) (by decide +kernel), isWd_wis hs (by decide) (by decide +kernel) (by decide +kernel), isWd_wis hs (by decide) (by decide +kernel) (by decide +kernel)⟩
theorem cW_b : (∀ k, k < 9 → -1000 ≤ cW k ∧ cW k < 2000000000000000) ∧ (∀ k, k < 7 → -1000 ≤ cO k ∧ cO k < 2000000000000000) ∧ (∀ k, k < 4 → -1000 ≤ cH k ∧ cH k < 2000000000000000) ∧ (∀ k, k < 4 → -1000 ≤ cA k ∧ cA k < 2000000000000000) := by decide +kernel
theorem m_partAt (hS : ShOK S B) (hn : 1000 ≤ n) {s : Nat} (hL : LM M B tb l s) (hC : ∀ i, i < 9 → mJ M (B + 120) i = jJ (cW i)) : F_Mo_partAt n E S (B + 105) M = some (iI (if wix tb l s cW 9 = -1 then -1 else wix tb l s cW 9 + 1), M) := by
  unfold F_Mo_partAt F_Mo_partAt_b4
  obtain ⟨w1, e1⟩ := zfix_for (F := fun r4 s => F_Mo_partAt_L4 n E S r4 s.1 s.2.1 s.2.2.1 s.2.2.2) (fun k => (B + 105, iI (if wix tb l s cW k = -1 then -1 else wix tb l s cW k + 1), iI (k : Int), M)) 9 (fun k hk rec => by
    show F_Mo_partAt_L4 n E S rec (B + 105) (iI (if wix tb l s cW k = -1 then -1 else wix tb l s cW k + 1)) (iI (k : Int)) M = rec (B + 105, iI (if wix tb l s cW (k + 1) = -1 then -1 else wix tb l s cW (k + 1) + 1), iI ((k + 1 : Nat) : Int), M)
    have hb := cW_b.1 k hk
    unfold F_Mo_partAt_L4 F_Mo_partAt_b30
    rw [show (9 : Int32) = iI 9 by decide, if_neg (cleF (by omega) (by omega) (by omega)), hS.g105_31, obs, hS.r120 (by omega) (by omega), obs, Int.toNat_natCast, hC k hk, m_isWord hS hL hb.1 hb.2, obs, wix_s]
    by_cases c : kdT tb l s = 1 ∧ wT tb l s = cW k
    · rw [if_pos (decide_eq_true c), if_pos c, if_neg (by omega), iL1, iI_add]; rfl
    · rw [if_neg (fun q => c (of_decide_eq_true q)), if_neg c, iL1, iI_add]; rfl) (k := n) (by omega)
  dsimp only at e1
  rw [wix_0, if_pos rfl] at e1
  refine e1.trans ?_
  show F_Mo_partAt_L4 n E S _ (B + 105) (iI (if wix tb l s cW 9 = -1 then -1 else wix tb l s cW 9 + 1)) (iI ((9 : Nat) : Int)) M = _
  unfold F_Mo_partAt_L4
  rw [show (9 : Int32) = iI 9 by decide, if_pos (cleT (by omega) (by omega) (by omega))]
theorem m_orderPartAt (hS : ShOK S B) (hn : 1000 ≤ n) {s : Nat} (hL : LM M B tb l s) (hC : ∀ i, i < 7 → mJ M (B + 121) i = jJ (cO i)) : F_Mo_orderPartAt n E S (B + 105) M = some (iI (if wix tb l s cO 7 = -1 then -1 else wix tb l s cO 7 + 1), M) := by
  unfold F_Mo_orderPartAt F_Mo_orderPartAt_b4
  obtain ⟨w1, e1⟩ := zfix_for (F := fun r4 s => F_Mo_orderPartAt_L4 n E S r4 s.1 s.2.1 s.2.2.1 s.2.2.2) (fun k => (B + 105, iI (if wix tb l s cO k = -1 then -1 else wix tb l s cO k + 1), iI (k : Int), M)) 7 (fun k hk rec => by
    show F_Mo_orderPartAt_L4 n E S rec (B + 105) (iI (if wix tb l s cO k = -1 then -1 else wix tb l s cO k + 1)) (iI (k : Int)) M = rec (B + 105, iI (if wix tb l s cO (k + 1) = -1 then -1 else wix tb l s cO (k + 1) + 1), iI ((k + 1 : Nat) : Int), M)
    have hb := cW_b.2.1 k hk
    unfold F_Mo_orderPartAt_L4 F_Mo_orderPartAt_b30
    rw [show (7 : Int32) = iI 7 by decide, if_neg (cleF (by omega) (by omega) (by omega)), hS.g105_32, obs, hS.r121 (by omega) (by omega), obs, Int.toNat_natCast, hC k hk, m_isWord hS hL hb.1 hb.2, obs, wix_s]
    by_cases c : kdT tb l s = 1 ∧ wT tb l s = cO k
    · rw [if_pos (decide_eq_true c), if_pos c, if_neg (by omega), iL1, iI_add]; rfl
    · rw [if_neg (fun q => c (of_decide_eq_true q)), if_neg c, iL1, iI_add]; rfl) (k := n) (by omega)
  dsimp only at e1
  rw [wix_0, if_pos rfl] at e1
  refine e1.trans ?_
  show F_Mo_orderPartAt_L4 n E S _ (B + 105) (iI (if wix tb l s cO 7 = -1 then -1 else wix tb l s cO 7 + 1)) (iI ((7 : Nat) : Int)) M = _
  unfold F_Mo_orderPartAt_L4
  rw [show (7 : Int32) = iI 7 by decide, if_pos (cleT (by omega) (by omega) (by omega))]
/-- the class's lists -/
theorem s_words (hS : ShOK S B) (hn : 1000 ≤ n) {s : Nat} (hL : LC M B tb l s) : F_Ta_indexIn n E S (B + 67) 5 M = some (iI (wix tb l s cW 9), M) ∧ F_Ta_indexIn n E S (B + 67) 4 M = some (iI (wix tb l s cO 7), M) ∧ F_Ta_indexIn n E S (B + 67) 1 M = some (iI (wix tb l s cH 4), M) ∧ F_Ta_indexIn n E S (B + 67) 0 M = some (iI (wix tb l s cA 4), M) := by
  have hs := hL.2.1
  refine ⟨?_, ?_, ?_, ?_⟩
  · rw [s_indexIn hS hn hL (by decide) wl_ok.2.2.2]
    unfold wix
    by_cases c : kdT tb l s = 1
    · rw [if_pos c, if_pos c, ix5 hs c]
    · rw [if_neg c, if_neg c]
  · rw [s_indexIn hS hn hL (by decide) wl_ok.2.2.1]
    unfold wix
    by_cases c : kdT tb l s = 1
    · rw [if_pos c, if_pos c, ix4 hs c]
    · rw [if_neg c, if_neg c]
  · rw [s_indexIn hS hn hL (by decide) wl_ok.2.1]
    unfold wix
    by_cases c : kdT tb l s = 1
    · rw [if_pos c, if_pos c, ix1 hs c]
    · rw [if_neg c, if_neg c]
  · rw [s_indexIn hS hn hL (by decide) wl_ok.1]
    unfold wix
    by_cases c : kdT tb l s = 1
    · rw [if_pos c, if_pos c, ix0 hs c]
    · rw [if_neg c, if_neg c]
end
