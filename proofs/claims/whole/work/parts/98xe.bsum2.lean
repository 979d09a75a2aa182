/-! law and orders: behind a sum, no operation -/
section
variable {n : Nat} {E : zE} {S : zS} {M M' : zH} {B : Nat} {Pl : List (Int × Int)} {mo ma : Nat → Int} {nc lf op : Nat} {tb : Nat → Int} {l s : Nat}
theorem inn_b : ∀ (L : List (Int × Int)), pil M B L → inn L = -1 ∨ inn L = 31 ∨ inn L = 32 := by
  intro L
  induction L with
  | nil => intro _; exact Or.inl rfl
  | cons x t ih =>
    intro h
    have e : inn (x :: t) = if 31 ≤ x.1 then x.1 else inn t := rfl
    have h3 := h.2.2.1
    rw [e]
    by_cases c : 31 ≤ x.1
    · rw [if_pos c]; omega
    · rw [if_neg c]; exact ih h.2.2.2
theorem m_bsOver (hS : ShOK S B) (hn : 1000 ≤ n) (ho : opS tb l s = -1) (h : MG M B tb l s Pl mo ma nc lf op) (hi : inn Pl = -1) : F_Mo_behindSum n E S (B + 105) (iI 0) M = some (iI 4, M) := by
  rw [m_bsRed hS h.1, ho]
  unfold F_Mo_behindSum_b71
  rw [iL1, iI_neg, if_pos rfl, hS.ck105, obs, m_inner hS hn h.2.1, obs, hi, if_neg (show ¬ iI (-1) = 32 by decide), if_pos rfl, iL0, if_pos rfl]
  rfl
theorem m_bsTold (hS : ShOK S B) (hn : 1000 ≤ n) (ho : opS tb l s = -1) (h : MG M B tb l s Pl mo ma nc lf op) (hi : inn Pl ≠ 32) (hc : cmpd Pl = true) : F_Mo_behindSum n E S (B + 105) (iI 1) M = some (iI 2, M) := by
  have hb := inn_b (M := M) (B := B) Pl h.2.1.1.2.2
  have e163 : F_Mo_behindSum_b163 n E S (B + 105) M = some (iI 2, M) := by
    unfold F_Mo_behindSum_b163
    rw [hS.ck105, obs, m_isCmp hS hn h.2.1, obs, if_pos hc]
    rfl
  rw [m_bsRed hS h.1, ho]
  unfold F_Mo_behindSum_b71
  rw [iL1, iI_neg, if_pos rfl, hS.ck105, obs, m_inner hS hn h.2.1, obs, show (32 : Int32) = iI 32 by decide, if_neg (ceqF hi (by omega) (by omega) (by omega) (by omega)), iL0, if_neg (show ¬ iI 1 = iI 0 by decide)]
  by_cases c : inn Pl = -1
  · rw [if_pos (ceqT c)]; exact e163
  · rw [if_neg (ceqF c (by omega) (by omega) (by omega) (by omega))]; exact e163
/-- a square bracket closes -/
theorem m_bsSq (hS : ShOK S B) (hn : 1000 ≤ n) {x1 : Int32} (ho : opS tb l s = -1) {P Q : List (Int × Int)} {a : Int} (h : MG M B tb l s (Q ++ (32, a) :: P) mo ma nc lf (op + 1)) (hi : inn (Q ++ (32, a) :: P) = 32) (hs : kdT tb l s = 3 ∧ tb s = 93) (hQ : ∀ x ∈ Q, 5 ≤ bnd x.1) (hc : nc + Q.length ≤ 400) : ∃ M', F_Mo_behindSum n E S (B + 105) x1 M = some (iI 3, M') ∧ MG M' B tb l (sT tb l (tE tb l s)) P (flu Q (mo, ma, nc)).1 (flu Q (mo, ma, nc)).2.1 (flu Q (mo, ma, nc)).2.2 lf op ∧ zAg (psX B) M M' := by
  obtain ⟨M1, e1, h1, hA1⟩ := m_must1 (n := n) (E := E) hS hn h
  obtain ⟨M2, e2, h2, hA2⟩ := m_set (n := n) (E := E) hS hn (least := 5) (by omega) (Or.inr ⟨(32, a), P, rfl, show bnd 32 < 5 by decide⟩) h1 hQ hc
  obtain ⟨⟨a1, a2, a3⟩, ⟨b1, b2, b3⟩, ⟨c1, c2⟩, ⟨d1, d2⟩⟩ := h2.2.1
  rw [List.length_cons] at a1 a2
  have hA3 : zAg (psX B) M2 (setI (setI M2 (B + 105) 29 (iI (P.length : Int))) (B + 105) 30 (iI (op : Int))) := (zAg.rfl'.setI (by unfold psX; omega)).setI (by unfold psX; omega)
  refine ⟨setI (setI M2 (B + 105) 29 (iI (P.length : Int))) (B + 105) 30 (iI (op : Int)), ?_, ⟨?_, ⟨⟨?_, by omega, ?_⟩, ⟨?_, b2, fun k hk => ?_⟩, ⟨?_, c2⟩, ⟨mI_s, by omega⟩⟩, ?_⟩, (hA1.trans hA2).trans hA3⟩
  · rw [m_bsRed hS h.1, ho]
    unfold F_Mo_behindSum_b71
    rw [iL1, iI_neg, if_pos rfl, hS.ck105, obs, m_inner hS hn h.2.1, obs, hi, show (32 : Int32) = iI 32 by decide, if_pos rfl, show (93 : Int32) = iI 93 by decide, m_isSign hS h.1 (by omega) (by omega), obs, decide_eq_true hs, show bI true = iI 1 from rfl, e1, obs, hS.i105, obs, h1.2.2, iL0, if_pos rfl, show (5 : Int32) = iI 5 by decide, e2, obs, hS.i105, obs, a1, iI_sub, show ((P.length + 1 : Nat) : Int) - 1 = (P.length : Int) by omega, hS.p105, obs, hS.i105, obs, mI_i (by decide), d1, iI_sub, show ((op + 1 : Nat) : Int) - 1 = (op : Int) by omega, hS.p105, obs]
    rfl
  · exact h2.1.ag (X := fun b j => b = B + 105 ∧ 29 ≤ j) ((zAg.rfl'.setI ⟨rfl, by omega⟩).setI ⟨rfl, by omega⟩) (fun j q1 q2 => by omega) (fun j => by omega)
  · rw [mI_i (by decide), mI_s]
  · exact a3.2.2.2.ag _ (fun k _ => ⟨by rw [mI_a (by omega), mI_a (by omega)], by rw [mI_a (by omega), mI_a (by omega)]⟩)
  · rw [mI_i (by decide), mI_i (by decide)]; exact b1
  · rw [mI_a (by omega), mI_a (by omega), mI_a (by omega), mI_a (by omega)]; exact b3 k hk
  · rw [mI_i (by decide), mI_i (by decide)]; exact c1
  · rw [mI_i (by decide), mI_i (by decide)]; exact h2.2.2
/-- it does not close -/
theorem m_bsSq0 (hS : ShOK S B) (hn : 1000 ≤ n) {x1 : Int32} (ho : opS tb l s = -1) (h : MG M B tb l s Pl mo ma nc lf op) (hk : nc + Pl.length ≤ 400) (hi : inn Pl = 32) (hs : ¬ (kdT tb l s = 3 ∧ tb s = 93)) : ∃ M', F_Mo_behindSum n E S (B + 105) x1 M = some (iI 3, M') ∧ MBad M' B s ∧ zAg (psB B) M M' := by
  obtain ⟨M1, e1, h1, hA1⟩ := m_must0 (n := n) (E := E) hS h hk
  refine ⟨M1, ?_, h1, hA1⟩
  rw [m_bsRed hS h.1, ho]
  unfold F_Mo_behindSum_b71
  rw [iL1, iI_neg, if_pos rfl, hS.ck105, obs, m_inner hS hn h.2.1, obs, hi, show (32 : Int32) = iI 32 by decide, if_pos rfl, show (93 : Int32) = iI 93 by decide, m_isSign hS h.1 (by omega) (by omega), obs, decide_eq_false hs, show bI false = iI 0 from rfl, e1, obs, hS.i105, obs, h1.1, iL0, if_neg (show ¬ iI 1 = iI 0 by decide)]
  rfl
/-- the model's number of a comparison -/
def cpS (tb : Nat → Int) (l s : Nat) : Int := if kdT tb l s = 3 ∧ tb s = 60 then 25 else if kdT tb l s = 3 ∧ tb s = 62 then 26 else if kdT tb l s = 3 ∧ tb s = 61 then 27 else -1
theorem m_bsRed2 (hS : ShOK S B) (hn : 1000 ≤ n) (ho : opS tb l s = -1) (h : MG M B tb l s Pl mo ma nc lf op) (hi : inn Pl ≠ 32) (hc : cmpd Pl = false) : F_Mo_behindSum n E S (B + 105) (iI 1) M = if cpS tb l s = -1 then F_Mo_behindSum_b224 n E S (B + 105) (iI 27) (iI 0) (B + 105) M else F_Mo_behindSum_b224 n E S (B + 105) (iI (cpS tb l s)) (iI 1) (B + 105) M := by
  have hb := inn_b (M := M) (B := B) Pl h.2.1.1.2.2
  have e163 : F_Mo_behindSum_b163 n E S (B + 105) M = if cpS tb l s = -1 then F_Mo_behindSum_b224 n E S (B + 105) (iI 27) (iI 0) (B + 105) M else F_Mo_behindSum_b224 n E S (B + 105) (iI (cpS tb l s)) (iI 1) (B + 105) M := by
    unfold F_Mo_behindSum_b163 cpS
    rw [hS.ck105, obs, m_isCmp hS hn h.2.1, obs, if_neg (nbT hc), show (60 : Int32) = iI 60 by decide, m_isSign hS h.1 (by omega) (by omega), obs]
    by_cases c1 : kdT tb l s = 3 ∧ tb s = 60
    · rw [if_pos (decide_eq_true c1), if_pos c1, if_neg (by decide)]
      unfold F_Mo_behindSum_b202 F_Mo_behindSum_b219
      rw [if_neg (by decide)]
      rfl
    · rw [if_neg (fun z => c1 (of_decide_eq_true z)), if_neg c1, show (62 : Int32) = iI 62 by decide, m_isSign hS h.1 (by omega) (by omega), obs]
      by_cases c2 : kdT tb l s = 3 ∧ tb s = 62
      · rw [if_pos (decide_eq_true c2), if_pos c2, if_neg (by decide)]
        unfold F_Mo_behindSum_b202 F_Mo_behindSum_b219
        rw [if_neg (by decide)]
        rfl
      · rw [if_neg (fun z => c2 (of_decide_eq_true z)), if_neg c2]
        unfold F_Mo_behindSum_b202 F_Mo_behindSum_b219
        rw [if_pos rfl, hS.ck105, obs, show (61 : Int32) = iI 61 by decide, m_isSign hS h.1 (by omega) (by omega), obs]
        by_cases c3 : kdT tb l s = 3 ∧ tb s = 61
        · rw [if_pos (decide_eq_true c3), if_pos c3, if_neg (by decide)]
          rfl
        · rw [if_neg (fun z => c3 (of_decide_eq_true z)), if_neg c3, if_pos rfl]
          rfl
  rw [m_bsRed hS h.1, ho]
  unfold F_Mo_behindSum_b71
  rw [iL1, iI_neg, if_pos rfl, hS.ck105, obs, m_inner hS hn h.2.1, obs, show (32 : Int32) = iI 32 by decide, if_neg (ceqF hi (by omega) (by omega) (by omega) (by omega)), iL0, if_neg (show ¬ iI 1 = iI 0 by decide)]
  by_cases c : inn Pl = -1
  · rw [if_pos (ceqT c)]; exact e163
  · rw [if_neg (ceqF c (by omega) (by omega) (by omega) (by omega))]; exact e163
theorem m_bsCmp (hS : ShOK S B) (hn : 1000 ≤ n) (ho : opS tb l s = -1) {P Q : List (Int × Int)} (hP : P = [] ∨ ∃ y t, P = y :: t ∧ bnd y.1 < 5) (h : MG M B tb l s (Q ++ P) mo ma nc lf op) (hi : inn (Q ++ P) ≠ 32) (hc : cmpd (Q ++ P) = false) (hs : cpS tb l s ≠ -1) (hQ : ∀ x ∈ Q, 5 ≤ bnd x.1) (hc4 : nc + Q.length ≤ 400) (hp : P.length < 400) : ∃ M', F_Mo_behindSum n E S (B + 105) (iI 1) M = some (iI 1, M') ∧ MG M' B tb l (sT tb l (tE tb l s)) ((cpS tb l s, 0) :: P) (flu Q (mo, ma, nc)).1 (flu Q (mo, ma, nc)).2.1 (flu Q (mo, ma, nc)).2.2 lf op ∧ zAg (psX B) M M' := by
  have hb : 25 ≤ cpS tb l s ∧ cpS tb l s ≤ 27 := by
    unfold cpS at hs ⊢
    repeat' split
    all_goals first | omega | (exfalso; simp_all)
  obtain ⟨M1, e1, h1, hA1⟩ := m_must1 (n := n) (E := E) hS hn h
  obtain ⟨M2, e2, h2, hA2⟩ := m_set (n := n) (E := E) hS hn (least := 5) (by omega) hP h1 hQ hc4
  obtain ⟨M3, e3, h3, hA3⟩ := m_psh (n := n) (E := E) hS h2 hp (o := cpS tb l s) (a := 0) (by omega)
  refine ⟨M3, ?_, h3, (hA1.trans hA2).trans hA3⟩
  rw [m_bsRed2 hS hn ho h hi hc, if_neg hs]
  unfold F_Mo_behindSum_b224
  rw [hS.ck105, obs, e1, obs, hS.i105, obs, h1.2.2, iL0, if_pos rfl, show (5 : Int32) = iI 5 by decide, e2, obs, e3, obs, iL1]
theorem m_bsCmp0 (hS : ShOK S B) (hn : 1000 ≤ n) (ho : opS tb l s = -1) (h : MG M B tb l s Pl mo ma nc lf op) (hk : nc + Pl.length ≤ 400) (hi : inn Pl ≠ 32) (hc : cmpd Pl = false) (hs : cpS tb l s = -1) : ∃ M', F_Mo_behindSum n E S (B + 105) (iI 1) M = some (iI 1, M') ∧ MBad M' B s ∧ zAg (psB B) M M' := by
  obtain ⟨M1, e1, h1, hA1⟩ := m_must0 (n := n) (E := E) hS h hk
  refine ⟨M1, ?_, h1, hA1⟩
  rw [m_bsRed2 hS hn ho h hi hc, if_pos hs]
  unfold F_Mo_behindSum_b224
  rw [hS.ck105, obs, e1, obs, hS.i105, obs, h1.1, iL0, if_neg (show ¬ iI 1 = iI 0 by decide), iL1]
end
