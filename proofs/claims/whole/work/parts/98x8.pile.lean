/-! law and orders: the model's code and pile -/
def upF (f : Nat → Int) (a : Nat) (v : Int) : Nat → Int := fun k => if k = a then v else f k
def pil (M : zH) (B : Nat) : List (Int × Int) → Prop
  | [] => True
  | x :: t => mI M (B + 118) t.length = iI x.1 ∧ mI M (B + 119) t.length = iI x.2 ∧ (20 ≤ x.1 ∧ x.1 ≤ 32 ∧ 0 ≤ x.2 ∧ x.2 < 400) ∧ pil M B t
/-- the model within an expression: pile (top first), code, leaves, brackets -/
def MX (M : zH) (B : Nat) (Pl : List (Int × Int)) (mo ma : Nat → Int) (nc lf op : Nat) : Prop := (mI M (B + 105) 29 = iI (Pl.length : Int) ∧ Pl.length ≤ 400 ∧ pil M B Pl) ∧ (mI M (B + 105) 23 = iI (nc : Int) ∧ nc ≤ 400 ∧ ∀ k, k < nc → mI M (B + 116) k = iI (mo k) ∧ mI M (B + 117) k = iI (ma k)) ∧ (mI M (B + 105) 26 = iI (lf : Int) ∧ lf ≤ 50) ∧ (mI M (B + 105) 30 = iI (op : Int) ∧ op ≤ 8)
def pmX (B : Nat) : Nat → Nat → Prop := fun b j => (b = B + 105 ∧ (j = 23 ∨ j = 29)) ∨ (B + 116 ≤ b ∧ b ≤ B + 119)
theorem pil.ag {M M' : zH} {B : Nat} : ∀ (Pl : List (Int × Int)), pil M B Pl → (∀ k, k < Pl.length → mI M' (B + 118) k = mI M (B + 118) k ∧ mI M' (B + 119) k = mI M (B + 119) k) → pil M' B Pl := by
  intro Pl
  induction Pl with
  | nil => intro _ _; trivial
  | cons x t ih =>
    intro h e
    have e0 := e t.length (by rw [List.length_cons]; omega)
    exact ⟨e0.1.trans h.1, e0.2.trans h.2.1, h.2.2.1, ih h.2.2.2 (fun k hk => e k (by rw [List.length_cons]; omega))⟩
section
variable {n : Nat} {E : zE} {S : zS} {M M' : zH} {B : Nat} {Pl : List (Int × Int)} {mo ma : Nat → Int} {nc lf op : Nat}
theorem MX.ag {X : Nat → Nat → Prop} (h : MX M B Pl mo ma nc lf op) (hA : zAg X M M') (h1 : ¬ X (B + 105) 23 ∧ ¬ X (B + 105) 26 ∧ ¬ X (B + 105) 29 ∧ ¬ X (B + 105) 30) (h2 : ∀ b j, B + 116 ≤ b → b ≤ B + 119 → ¬ X b j) : MX M' B Pl mo ma nc lf op := by
  obtain ⟨⟨a1, a2, a3⟩, ⟨b1, b2, b3⟩, ⟨c1, c2⟩, ⟨d1, d2⟩⟩ := h
  refine ⟨⟨by rw [(hA _ _ h1.2.2.1).1]; exact a1, a2, a3.ag Pl (fun k _ => ⟨(hA _ _ (h2 _ _ (by omega) (by omega))).1, (hA _ _ (h2 _ _ (by omega) (by omega))).1⟩)⟩, ⟨by rw [(hA _ _ h1.1).1]; exact b1, b2, fun k hk => ?_⟩, ⟨by rw [(hA _ _ h1.2.1).1]; exact c1, c2⟩, ⟨by rw [(hA _ _ h1.2.2.2).1]; exact d1, d2⟩⟩
  rw [(hA _ _ (h2 _ _ (by omega) (by omega))).1, (hA _ _ (h2 _ _ (by omega) (by omega))).1]
  exact b3 k hk
theorem m_emit (hS : ShOK S B) (h : MX M B Pl mo ma nc lf op) (hn : nc < 400) {o a : Int} : ∃ M', F_Mo_emit n E S (B + 105) (iI o) (iI a) M = some M' ∧ MX M' B Pl (upF mo nc o) (upF ma nc a) (nc + 1) lf op ∧ zAg (pmX B) M M' := by
  obtain ⟨⟨a1, a2, a3⟩, ⟨b1, b2, b3⟩, ⟨c1, c2⟩, ⟨d1, d2⟩⟩ := h
  unfold F_Mo_emit
  rw [hS.g105_24, obs, hS.i105, obs, b1, hS.w116 (by omega) (by omega), obs, Int.toNat_natCast, hS.g105_25, obs, hS.i105, obs, mI_a (by omega), b1, hS.w117 (by omega) (by omega), obs, Int.toNat_natCast, hS.i105, obs, mI_a (by omega), mI_a (by omega), b1, iL1, iI_add, hS.p105, obs]
  have hA : zAg (pmX B) M (setI (setI (setI M (B + 116) nc (iI o)) (B + 117) nc (iI a)) (B + 105) 23 (iI ((nc : Int) + 1))) := ((zAg.rfl'.setI (by unfold pmX; omega)).setI (by unfold pmX; omega)).setI (by unfold pmX; omega)
  refine ⟨_, rfl, ⟨⟨?_, a2, ?_⟩, ⟨mI_s, by omega, fun k hk => ?_⟩, ⟨?_, c2⟩, ⟨?_, d2⟩⟩, hA⟩
  · rw [mI_i (by decide), mI_a (by omega), mI_a (by omega)]; exact a1
  · exact a3.ag Pl (fun k _ => ⟨by rw [mI_a (by omega), mI_a (by omega), mI_a (by omega)], by rw [mI_a (by omega), mI_a (by omega), mI_a (by omega)]⟩)
  · unfold upF
    refine ⟨?_, ?_⟩
    · rw [mI_a (by omega), mI_a (by omega), mI_ite]
      by_cases q : k = nc
      · rw [if_pos ⟨rfl, q⟩, if_pos q]
      · rw [if_neg (fun z => q z.2), if_neg q]; exact (b3 k (by omega)).1
    · rw [mI_a (by omega), mI_ite]
      by_cases q : k = nc
      · rw [if_pos ⟨rfl, q⟩, if_pos q]
      · rw [if_neg (fun z => q z.2), if_neg q, mI_a (by omega)]; exact (b3 k (by omega)).2
  · rw [mI_i (by decide), mI_a (by omega), mI_a (by omega)]; exact c1
  · rw [mI_i (by decide), mI_a (by omega), mI_a (by omega)]; exact d1
theorem m_push (hS : ShOK S B) (h : MX M B Pl mo ma nc lf op) (hn : Pl.length < 400) {o a : Int} (ho : 20 ≤ o ∧ o ≤ 32 ∧ 0 ≤ a ∧ a < 400) : ∃ M', F_Mo_push n E S (B + 105) (iI o) (iI a) M = some M' ∧ MX M' B ((o, a) :: Pl) mo ma nc lf op ∧ zAg (pmX B) M M' := by
  obtain ⟨⟨a1, a2, a3⟩, ⟨b1, b2, b3⟩, ⟨c1, c2⟩, ⟨d1, d2⟩⟩ := h
  unfold F_Mo_push
  rw [hS.g105_27, obs, hS.i105, obs, a1, hS.w118 (by omega) (by omega), obs, Int.toNat_natCast, hS.g105_28, obs, hS.i105, obs, mI_a (by omega), a1, hS.w119 (by omega) (by omega), obs, Int.toNat_natCast, hS.i105, obs, mI_a (by omega), mI_a (by omega), a1, iL1, iI_add, hS.p105, obs]
  have hA : zAg (pmX B) M (setI (setI (setI M (B + 118) Pl.length (iI o)) (B + 119) Pl.length (iI a)) (B + 105) 29 (iI ((Pl.length : Int) + 1))) := ((zAg.rfl'.setI (by unfold pmX; omega)).setI (by unfold pmX; omega)).setI (by unfold pmX; omega)
  refine ⟨_, rfl, ⟨⟨?_, by rw [List.length_cons]; omega, ⟨?_, ?_, ho, ?_⟩⟩, ⟨?_, b2, fun k hk => ?_⟩, ⟨?_, c2⟩, ⟨?_, d2⟩⟩, hA⟩
  · rw [mI_s, List.length_cons]; rfl
  · rw [mI_a (by omega), mI_a (by omega), mI_s]
  · rw [mI_a (by omega), mI_s]
  · exact a3.ag Pl (fun k hk => ⟨by rw [mI_a (by omega), mI_a (by omega), mI_i (by omega)], by rw [mI_a (by omega), mI_i (by omega), mI_a (by omega)]⟩)
  · rw [mI_i (by decide), mI_a (by omega), mI_a (by omega)]; exact b1
  · rw [mI_a (by omega), mI_a (by omega), mI_a (by omega), mI_a (by omega), mI_a (by omega), mI_a (by omega)]; exact b3 k hk
  · rw [mI_i (by decide), mI_a (by omega), mI_a (by omega)]; exact c1
  · rw [mI_i (by decide), mI_a (by omega), mI_a (by omega)]; exact d1
/-- how an operation binds -/
def bnd (o : Int) : Int := if 31 ≤ o then 0 else if o = 30 then 1 else if o = 29 then 2 else if o = 28 then 3 else if 25 ≤ o then 4 else if 22 ≤ o then 6 else 5
theorem m_binds {o : Int} (h1 : 20 ≤ o) (h2 : o ≤ 32) : F_Mo_binds n E S (iI o) M = some (iI (bnd o), M) := by
  have key : ∀ t : Fin 13, F_Mo_binds n E S (iI ((20 + t.val : Nat) : Int)) M = some (iI (bnd ((20 + t.val : Nat) : Int)), M) := fun t => by
    match t with
    | ⟨0, _⟩ => rfl
    | ⟨1, _⟩ => rfl
    | ⟨2, _⟩ => rfl
    | ⟨3, _⟩ => rfl
    | ⟨4, _⟩ => rfl
    | ⟨5, _⟩ => rfl
    | ⟨6, _⟩ => rfl
    | ⟨7, _⟩ => rfl
    | ⟨8, _⟩ => rfl
    | ⟨9, _⟩ => rfl
    | ⟨10, _⟩ => rfl
    | ⟨11, _⟩ => rfl
    | ⟨12, _⟩ => rfl
  have := key ⟨(o - 20).toNat, by omega⟩
  dsimp only at this
  rw [show ((20 + (o - 20).toNat : Nat) : Int) = o by omega] at this
  exact this
def fl1 (x : Int × Int) (c : (Nat → Int) × (Nat → Int) × Nat) : (Nat → Int) × (Nat → Int) × Nat := if x.1 = 29 ∨ x.1 = 30 then (c.1, upF c.2.1 x.2.toNat (c.2.2 : Int), c.2.2) else (upF c.1 c.2.2 x.1, upF c.2.1 c.2.2 0, c.2.2 + 1)
/-- the pile's Q (top first) settled onto the code -/
def flu : List (Int × Int) → (Nat → Int) × (Nat → Int) × Nat → (Nat → Int) × (Nat → Int) × Nat
  | [], c => c
  | x :: t, c => flu t (fl1 x c)
theorem bnd_b {o : Int} : 0 ≤ bnd o ∧ bnd o ≤ 6 := by
  unfold bnd
  (repeat' split) <;> omega
theorem m_settle (hS : ShOK S B) {least : Int} (hl : 1 ≤ least ∧ least ≤ 6) {P : List (Int × Int)} (hP : P = [] ∨ ∃ y t, P = y :: t ∧ bnd y.1 < least) : ∀ (Q : List (Int × Int)) (M : zH) (mo ma : Nat → Int) (nc fuel : Nat), MX M B (Q ++ P) mo ma nc lf op → (∀ x ∈ Q, least ≤ bnd x.1) → nc + Q.length ≤ 400 → Q.length < fuel → ∃ M', zfix (fun r0 s => F_Mo_settle_L0 n E S r0 s.1 s.2.1 s.2.2) fuel (B + 105, iI least, M) = some M' ∧ MX M' B P (flu Q (mo, ma, nc)).1 (flu Q (mo, ma, nc)).2.1 (flu Q (mo, ma, nc)).2.2 lf op ∧ zAg (pmX B) M M' := by
  intro Q
  induction Q with
  | nil =>
    intro M mo ma nc fuel h hQ hc hf
    obtain ⟨fuel, rfl⟩ : ∃ f', fuel = f' + 1 := ⟨fuel - 1, by omega⟩
    refine ⟨M, ?_, h, zAg.rfl'⟩
    have h' : MX M B P mo ma nc lf op := h
    obtain ⟨⟨a1, a2, a3⟩, _⟩ := h'
    show F_Mo_settle_L0 n E S _ (B + 105) (iI least) M = _
    unfold F_Mo_settle_L0
    rw [hS.i105, obs, a1, iL0]
    rcases hP with q | ⟨y, t, q, q2⟩
    · rw [q, List.length_nil]; rw [if_pos (cleT (by omega) (by omega) (by omega))]
    · rw [q] at a1 a2 a3 ⊢
      rw [List.length_cons] at a1 a2 ⊢
      have hb := bnd_b (o := y.1)
      rw [if_neg (cleF (by omega) (by omega) (by omega)), hS.g105_27, obs, obs, iL1, iI_sub, hS.r118 (by omega) (by omega), obs, show (((t.length + 1 : Nat) : Int) - 1).toNat = t.length by omega, a3.1, m_binds a3.2.2.1.1 a3.2.2.1.2.1, obs, if_pos (cltT (by omega) (by omega) (by omega))]
  | cons x Q ih =>
    intro M mo ma nc fuel h hQ hc hf
    obtain ⟨fuel, rfl⟩ : ∃ f', fuel = f' + 1 := ⟨fuel - 1, by omega⟩
    rw [List.length_cons] at hc hf
    have hx := hQ x (List.mem_cons_self ..)
    obtain ⟨⟨a1, a2, a3⟩, ⟨b1, b2, b3⟩, ⟨c1, c2⟩, ⟨d1, d2⟩⟩ := h
    rw [List.cons_append, List.length_cons] at a1 a2
    have a3' : pil M B (x :: (Q ++ P)) := a3
    obtain ⟨p1, p2, p3, p4⟩ := a3'
    have hb := bnd_b (o := x.1)
    have hA1 : zAg (pmX B) M (setI M (B + 105) 29 (iI (((Q ++ P).length : Nat) : Int))) := zAg.rfl'.setI (by unfold pmX; omega)
    have g29 : mI (setI M (B + 105) 29 (iI (((Q ++ P).length : Nat) : Int))) (B + 105) 29 = iI (((Q ++ P).length : Nat) : Int) := mI_s
    have h1 : MX (setI M (B + 105) 29 (iI (((Q ++ P).length : Nat) : Int))) B (Q ++ P) mo ma nc lf op := ⟨⟨g29, by omega, p4.ag _ (fun k _ => ⟨by rw [mI_a (by omega)], by rw [mI_a (by omega)]⟩)⟩, ⟨by rw [mI_i (by decide)]; exact b1, b2, fun k hk => by rw [mI_a (by omega), mI_a (by omega)]; exact b3 k hk⟩, ⟨by rw [mI_i (by decide)]; exact c1, c2⟩, ⟨by rw [mI_i (by decide)]; exact d1, d2⟩⟩
    have g118 : mI (setI M (B + 105) 29 (iI (((Q ++ P).length : Nat) : Int))) (B + 118) (Q ++ P).length = iI x.1 := by rw [mI_a (by omega)]; exact p1
    have g119 : mI (setI M (B + 105) 29 (iI (((Q ++ P).length : Nat) : Int))) (B + 119) (Q ++ P).length = iI x.2 := by rw [mI_a (by omega)]; exact p2
    have red : ∀ rec, F_Mo_settle_L0 n E S rec (B + 105) (iI least) M = if x.1 = 29 ∨ x.1 = 30 then F_Mo_settle_b63 n E S rec (B + 105) (iI least) (setI M (B + 105) 29 (iI (((Q ++ P).length : Nat) : Int))) else (F_Mo_emit n E S (B + 105) (iI x.1) (iI 0) (setI M (B + 105) 29 (iI (((Q ++ P).length : Nat) : Int)))).bind fun q_24 => rec (B + 105, iI least, q_24) := fun rec => by
      unfold F_Mo_settle_L0
      rw [hS.i105, obs, a1, iL0, if_neg (cleF (by omega) (by omega) (by omega)), hS.g105_27, obs, obs, iL1, iI_sub, hS.r118 (by omega) (by omega), obs, show ((((Q ++ P).length + 1 : Nat) : Int) - 1) = (((Q ++ P).length : Nat) : Int) by omega, Int.toNat_natCast, p1, m_binds p3.1 p3.2.1, obs, if_neg (cltF (by omega) (by omega) (by omega)), hS.i105 (M := M), obs, a1, iI_sub, show ((((Q ++ P).length + 1 : Nat) : Int) - 1) = (((Q ++ P).length : Nat) : Int) by omega, hS.p105 (M := M), obs, hS.i105, obs, g29, hS.r118 (by omega) (by omega), obs, Int.toNat_natCast, g118, show (29 : Int32) = iI 29 by decide, show (30 : Int32) = iI 30 by decide]
      by_cases q : x.1 = 29
      · rw [if_pos (ceqT q), if_pos (Or.inl q)]
      · rw [if_neg (ceqF q (by omega) (by omega) (by omega) (by omega)), obs, hS.r118 (by omega) (by omega), obs, Int.toNat_natCast, g118]
        by_cases q2 : x.1 = 30
        · rw [if_pos (ceqT q2), if_pos (Or.inr q2)]
        · rw [if_neg (ceqF q2 (by omega) (by omega) (by omega) (by omega)), if_neg (fun z => by omega), obs, hS.r118 (by omega) (by omega), obs, Int.toNat_natCast, g118]
    generalize setI M (B + 105) 29 (iI (((Q ++ P).length : Nat) : Int)) = M1 at hA1 g29 h1 g118 g119 red
    by_cases c : x.1 = 29 ∨ x.1 = 30
    · have e1 : flu (x :: Q) (mo, ma, nc) = flu Q (mo, upF ma x.2.toNat (nc : Int), nc) := by
        show flu Q (fl1 x (mo, ma, nc)) = _
        unfold fl1; rw [if_pos c]
      have hA2 : zAg (pmX B) M1 (setI M1 (B + 117) x.2.toNat (iI (nc : Int))) := zAg.rfl'.setI (by unfold pmX; omega)
      have h2 : MX (setI M1 (B + 117) x.2.toNat (iI (nc : Int))) B (Q ++ P) mo (upF ma x.2.toNat (nc : Int)) nc lf op := by
        obtain ⟨⟨a1, a2, a3⟩, ⟨b1, b2, b3⟩, ⟨c1, c2⟩, ⟨d1, d2⟩⟩ := h1
        refine ⟨⟨by rw [mI_a (by omega)]; exact a1, a2, a3.ag _ (fun k _ => ⟨by rw [mI_a (by omega)], by rw [mI_a (by omega)]⟩)⟩, ⟨by rw [mI_a (by omega)]; exact b1, b2, fun k hk => ?_⟩, ⟨by rw [mI_a (by omega)]; exact c1, c2⟩, ⟨by rw [mI_a (by omega)]; exact d1, d2⟩⟩
        rw [mI_a (by omega), mI_ite]
        unfold upF
        by_cases q : k = x.2.toNat
        · rw [if_pos ⟨rfl, q⟩, if_pos q]; exact ⟨(b3 k hk).1, rfl⟩
        · rw [if_neg (fun z => q z.2), if_neg q]; exact b3 k hk
      obtain ⟨M', e', h', hA'⟩ := ih _ mo (upF ma x.2.toNat (nc : Int)) nc fuel h2 (fun y hy => hQ y (List.mem_cons_of_mem _ hy)) (by omega) (by omega)
      refine ⟨M', ?_, by rw [e1]; exact h', (hA1.trans hA2).trans hA'⟩
      show F_Mo_settle_L0 n E S _ (B + 105) (iI least) M = _
      rw [red, if_pos c]
      unfold F_Mo_settle_b63
      rw [hS.g105_25, obs, hS.g105_28, obs, hS.i105, obs, g29, hS.r119 (by omega) (by omega), obs, Int.toNat_natCast, g119, hS.i105, obs, h1.2.1.1, hS.w117 (by omega) (by omega), obs]
      exact e'
    · have e1 : flu (x :: Q) (mo, ma, nc) = flu Q (upF mo nc x.1, upF ma nc 0, nc + 1) := by
        show flu Q (fl1 x (mo, ma, nc)) = _
        unfold fl1; rw [if_neg c]
      obtain ⟨M2, e2, h2, hA2⟩ := m_emit (n := n) (E := E) hS h1 (by omega) (o := x.1) (a := 0)
      obtain ⟨M', e', h', hA'⟩ := ih M2 (upF mo nc x.1) (upF ma nc 0) (nc + 1) fuel h2 (fun y hy => hQ y (List.mem_cons_of_mem _ hy)) (by omega) (by omega)
      refine ⟨M', ?_, by rw [e1]; exact h', (hA1.trans hA2).trans hA'⟩
      show F_Mo_settle_L0 n E S _ (B + 105) (iI least) M = _
      rw [red, if_neg c, e2, obs]
      exact e'
end
