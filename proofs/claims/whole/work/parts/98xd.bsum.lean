/-! law and orders: behind a sum, the model -/
/-- the model's number of the sign -/
def opS (tb : Nat → Int) (l s : Nat) : Int := if kdT tb l s = 3 ∧ tb s = 43 then 20 else if kdT tb l s = 3 ∧ tb s = 45 then 21 else if kdT tb l s = 3 ∧ tb s = 42 then 22 else if kdT tb l s = 3 ∧ tb s = 47 then 23 else if kdT tb l s = 3 ∧ tb s = 37 then 24 else -1
section
variable {n : Nat} {E : zE} {S : zS} {M M' : zH} {B : Nat} {Pl : List (Int × Int)} {mo ma : Nat → Int} {nc lf op : Nat} {tb : Nat → Int} {l s : Nat}
theorem m_bsRed (hS : ShOK S B) (h : LM M B tb l s) {x1 : Int32} : F_Mo_behindSum n E S (B + 105) x1 M = F_Mo_behindSum_b71 n E S (B + 105) x1 (iI (opS tb l s)) M := by
  unfold F_Mo_behindSum opS
  rw [hS.ck105, obs, show (43 : Int32) = iI 43 by decide, m_isSign hS h (by omega) (by omega), obs]
  by_cases c1 : kdT tb l s = 3 ∧ tb s = 43
  · rw [if_pos (decide_eq_true c1), if_pos c1]; rfl
  · rw [if_neg (fun z => c1 (of_decide_eq_true z)), if_neg c1, show (45 : Int32) = iI 45 by decide, m_isSign hS h (by omega) (by omega), obs]
    by_cases c2 : kdT tb l s = 3 ∧ tb s = 45
    · rw [if_pos (decide_eq_true c2), if_pos c2]; rfl
    · rw [if_neg (fun z => c2 (of_decide_eq_true z)), if_neg c2, show (42 : Int32) = iI 42 by decide, m_isSign hS h (by omega) (by omega), obs]
      by_cases c3 : kdT tb l s = 3 ∧ tb s = 42
      · rw [if_pos (decide_eq_true c3), if_pos c3]; rfl
      · rw [if_neg (fun z => c3 (of_decide_eq_true z)), if_neg c3, show (47 : Int32) = iI 47 by decide, m_isSign hS h (by omega) (by omega), obs]
        by_cases c4 : kdT tb l s = 3 ∧ tb s = 47
        · rw [if_pos (decide_eq_true c4), if_pos c4]; rfl
        · rw [if_neg (fun z => c4 (of_decide_eq_true z)), if_neg c4, show (37 : Int32) = iI 37 by decide, m_isSign hS h (by omega) (by omega), obs]
          by_cases c5 : kdT tb l s = 3 ∧ tb s = 37
          · rw [if_pos (decide_eq_true c5), if_pos c5]; rfl
          · rw [if_neg (fun z => c5 (of_decide_eq_true z)), if_neg c5]; rfl
theorem m_set (hS : ShOK S B) (hn : 1000 ≤ n) {least : Int} (hl : 1 ≤ least ∧ least ≤ 6) {P Q : List (Int × Int)} (hP : P = [] ∨ ∃ y t, P = y :: t ∧ bnd y.1 < least) (h : MG M B tb l s (Q ++ P) mo ma nc lf op) (hQ : ∀ x ∈ Q, least ≤ bnd x.1) (hc : nc + Q.length ≤ 400) : ∃ M', F_Mo_settle n E S (B + 105) (iI least) M = some M' ∧ MG M' B tb l s P (flu Q (mo, ma, nc)).1 (flu Q (mo, ma, nc)).2.1 (flu Q (mo, ma, nc)).2.2 lf op ∧ zAg (psX B) M M' := by
  obtain ⟨M', e, h1, hA⟩ := m_settle (n := n) (E := E) hS hl hP Q M mo ma nc n h.2.1 hQ hc (by omega)
  exact ⟨M', e, ⟨h.1.pm hA, h1, by rw [(hA _ _ (by unfold pmX; omega)).1]; exact h.2.2⟩, psX_pm hA⟩
theorem m_psh (hS : ShOK S B) (h : MG M B tb l s Pl mo ma nc lf op) (hn : Pl.length < 400) {o a : Int} (ho : 20 ≤ o ∧ o ≤ 32 ∧ 0 ≤ a ∧ a < 400) : ∃ M', F_Mo_push n E S (B + 105) (iI o) (iI a) M = some M' ∧ MG M' B tb l s ((o, a) :: Pl) mo ma nc lf op ∧ zAg (psX B) M M' := by
  obtain ⟨M', e, h1, hA⟩ := m_push (n := n) (E := E) hS h.2.1 hn ho
  exact ⟨M', e, ⟨h.1.pm hA, h1, by rw [(hA _ _ (by unfold pmX; omega)).1]; exact h.2.2⟩, psX_pm hA⟩
/-- an operation of sums -/
theorem m_bsOp (hS : ShOK S B) (hn : 1000 ≤ n) {x1 : Int32} (ho : opS tb l s ≠ -1) {P Q : List (Int × Int)} (hP : P = [] ∨ ∃ y t, P = y :: t ∧ bnd y.1 < bnd (opS tb l s)) (h : MG M B tb l s (Q ++ P) mo ma nc lf op) (hQ : ∀ x ∈ Q, bnd (opS tb l s) ≤ bnd x.1) (hc : nc + Q.length ≤ 400) (hp : P.length < 400) : ∃ M', F_Mo_behindSum n E S (B + 105) x1 M = some (iI 1, M') ∧ MG M' B tb l (sT tb l (tE tb l s)) ((opS tb l s, 0) :: P) (flu Q (mo, ma, nc)).1 (flu Q (mo, ma, nc)).2.1 (flu Q (mo, ma, nc)).2.2 lf op ∧ zAg (psX B) M M' := by
  have hb : 20 ≤ opS tb l s ∧ opS tb l s ≤ 24 := by
    unfold opS at ho ⊢
    repeat' split
    all_goals first | omega | (exfalso; simp_all)
  have hl : 1 ≤ bnd (opS tb l s) ∧ bnd (opS tb l s) ≤ 6 := by
    refine ⟨?_, bnd_b.2⟩
    unfold bnd
    rw [if_neg (by omega), if_neg (by omega), if_neg (by omega), if_neg (by omega), if_neg (by omega)]
    split <;> omega
  obtain ⟨M1, e1, h1, hA1⟩ := m_set (n := n) (E := E) hS hn hl hP h hQ hc
  obtain ⟨M2, e2, h2, hA2⟩ := m_psh (n := n) (E := E) hS h1 hp (o := opS tb l s) (a := 0) (by omega)
  obtain ⟨M3, e3, h3, hA3⟩ := m_next' (n := n) (E := E) hS hn h2
  refine ⟨M3, ?_, h3, (hA1.trans hA2).trans hA3⟩
  rw [m_bsRed hS h.1]
  unfold F_Mo_behindSum_b71
  rw [iL1, iI_neg, if_neg (ceqF ho (by omega) (by omega) (by omega) (by omega)), m_binds hb.1 (by omega), obs, hS.ck105, obs, e1, obs, iL0, e2, obs, e3, obs]
end
