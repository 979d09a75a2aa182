/-! law and orders: the model's inner and isCompared -/
def inn : List (Int × Int) → Int
  | [] => -1
  | x :: t => if 31 ≤ x.1 then x.1 else inn t
def cmpd : List (Int × Int) → Bool
  | [] => false
  | x :: t => if 20 ≤ x.1 ∧ x.1 ≤ 24 then cmpd t else decide (25 ≤ x.1 ∧ x.1 ≤ 27)
section
variable {n : Nat} {E : zE} {S : zS} {M M' : zH} {B : Nat} {Pl : List (Int × Int)} {mo ma : Nat → Int} {nc lf op : Nat}
theorem m_inner (hS : ShOK S B) (hn : 1000 ≤ n) (h : MX M B Pl mo ma nc lf op) : F_Mo_inner n E S (B + 105) M = some (iI (inn Pl), M) := by
  obtain ⟨⟨a1, a2, a3⟩, _⟩ := h
  unfold F_Mo_inner F_Mo_inner_b4
  have key : ∀ (L : List (Int × Int)) (fuel : Nat), pil M B L → L.length ≤ Pl.length → zfix (fun r4 s => F_Mo_inner_L4 n E S r4 s.1 s.2.1 s.2.2.1 s.2.2.2) (L.length + fuel) (B + 105, iI (-1), iI 0, M) = zfix (fun r4 s => F_Mo_inner_L4 n E S r4 s.1 s.2.1 s.2.2.1 s.2.2.2) fuel (B + 105, iI (inn L), iI (L.length : Int), M) := by
    intro L
    induction L with
    | nil => intro fuel _ _; rw [List.length_nil, Nat.zero_add]; rfl
    | cons x t ih =>
      intro fuel hp hl
      rw [List.length_cons] at hl
      rw [List.length_cons, show t.length + 1 + fuel = t.length + (fuel + 1) by omega, ih (fuel + 1) hp.2.2.2 (by omega)]
      obtain ⟨p1, p2, p3, p4⟩ := hp
      show F_Mo_inner_L4 n E S _ (B + 105) (iI (inn t)) (iI (t.length : Int)) M = _
      generalize zfix (fun r4 s => F_Mo_inner_L4 n E S r4 s.1 s.2.1 s.2.2.1 s.2.2.2) fuel = rec
      have e : inn (x :: t) = if 31 ≤ x.1 then x.1 else inn t := rfl
      unfold F_Mo_inner_L4 F_Mo_inner_b33
      rw [hS.i105, obs, a1, if_neg (cleF (by omega) (by omega) (by omega)), hS.g105_27, obs, hS.r118 (by omega) (by omega), obs, Int.toNat_natCast, p1, show (31 : Int32) = iI 31 by decide, e, iL1, iI_add]
      by_cases q : 31 ≤ x.1
      · rw [if_neg (cltF (by omega) (by omega) (by omega)), if_pos q, obs]; rfl
      · rw [if_pos (cltT (by omega) (by omega) (by omega)), if_neg q]; rfl
  have := key Pl (n - Pl.length) a3 (Nat.le_refl _)
  rw [show Pl.length + (n - Pl.length) = n by omega] at this
  refine this.trans ?_
  obtain ⟨f, hf⟩ : ∃ f, n - Pl.length = f + 1 := ⟨n - Pl.length - 1, by omega⟩
  rw [hf]
  show F_Mo_inner_L4 n E S _ (B + 105) (iI (inn Pl)) (iI (Pl.length : Int)) M = _
  unfold F_Mo_inner_L4
  rw [hS.i105, obs, a1, if_pos (cleT (by omega) (by omega) (by omega))]
theorem m_isCmp (hS : ShOK S B) (hn : 1000 ≤ n) (h : MX M B Pl mo ma nc lf op) : F_Mo_isCompared n E S (B + 105) M = some (cmpd Pl, M) := by
  obtain ⟨⟨a1, a2, a3⟩, _⟩ := h
  unfold F_Mo_isCompared F_Mo_isCompared_b7
  rw [hS.i105, obs, a1, iL1, iI_sub]
  have key : ∀ (L : List (Int × Int)) (fuel : Nat), pil M B L → L.length ≤ 400 → L.length < fuel → zfix (fun r7 s => F_Mo_isCompared_L7 n E S r7 s.1 s.2.1 s.2.2) fuel (B + 105, iI ((L.length : Int) - 1), M) = some (cmpd L, M) := by
    intro L
    induction L with
    | nil =>
      intro fuel _ _ hf
      obtain ⟨fuel, rfl⟩ : ∃ f', fuel = f' + 1 := ⟨fuel - 1, by omega⟩
      show F_Mo_isCompared_L7 n E S _ (B + 105) (iI (((0 : Nat) : Int) - 1)) M = _
      unfold F_Mo_isCompared_L7 F_Mo_isCompared_b36
      have c : iI (((0 : Nat) : Int) - 1) < (0 : Int32) := by decide
      rw [if_pos c, if_pos c]
      rfl
    | cons x t ih =>
      intro fuel hp hl hf
      rw [List.length_cons] at hl hf
      obtain ⟨fuel, rfl⟩ : ∃ f', fuel = f' + 1 := ⟨fuel - 1, by omega⟩
      have ih' := ih fuel hp.2.2.2 (by omega) (by omega)
      obtain ⟨p1, p2, p3, p4⟩ := hp
      rw [List.length_cons, show ((t.length + 1 : Nat) : Int) - 1 = (t.length : Int) by omega]
      show F_Mo_isCompared_L7 n E S _ (B + 105) (iI (t.length : Int)) M = _
      generalize zfix (fun r7 s => F_Mo_isCompared_L7 n E S r7 s.1 s.2.1 s.2.2) fuel = rec at ih' ⊢
      have e : cmpd (x :: t) = if 20 ≤ x.1 ∧ x.1 ≤ 24 then cmpd t else decide (25 ≤ x.1 ∧ x.1 ≤ 27) := rfl
      have c0 : ¬ iI (t.length : Int) < (0 : Int32) := by rw [iL0]; exact cltF (by omega) (by omega) (by omega)
      unfold F_Mo_isCompared_L7 F_Mo_isCompared_b36
      rw [if_neg c0, hS.g105_27, obs, hS.r118 (by omega) (by omega), obs, Int.toNat_natCast, p1, xJ (by omega) (by omega), show (20 : Int64) = jJ 20 by decide, show (24 : Int64) = jJ 24 by decide, s_in (by omega) (by omega) (by omega) (by omega) (by omega) (by omega), obs, e]
      by_cases q : 20 ≤ x.1 ∧ x.1 ≤ 24
      · rw [if_pos (decide_eq_true q), if_pos q, iL1, iI_neg, iI_add, show (t.length : Int) + -1 = (t.length : Int) - 1 by omega]
        exact ih'
      · rw [if_neg (fun z => q (of_decide_eq_true z)), if_neg q, if_neg c0, obs, hS.r118 (M := M) (by omega) (by omega), obs, Int.toNat_natCast, p1, xJ (by omega) (by omega), show (25 : Int64) = jJ 25 by decide, show (27 : Int64) = jJ 27 by decide, s_in (by omega) (by omega) (by omega) (by omega) (by omega) (by omega), obs]
        by_cases q2 : 25 ≤ x.1 ∧ x.1 ≤ 27
        · rw [if_pos (decide_eq_true q2), decide_eq_true q2]
        · rw [if_neg (fun z => q2 (of_decide_eq_true z)), decide_eq_false q2]
  exact key Pl n a3 a2 (by omega)
end
