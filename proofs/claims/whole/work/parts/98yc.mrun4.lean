/-! orders: running, the model (4): the loops -/
/-- stopped: what is done then -/
def gvM (n : Nat) (E : zE) (S : zS) (B : Nat) (x1 : Int32) (c : Int32) (M : zH) : Option (Int32 × zH) := (F_Mo_giveBack n E S (B + 105) x1 M).bind fun q_6 => (zpI S q_6 (B + 105) 11 52 c).bind fun m_7 => (F_Mo_tell n E S (B + 105) (-3) m_7).bind fun q_8 => some (q_8.1, q_8.2)
/-- the clauses that are run -/
def MC (MM : zH) (B : Nat) (mo ma : Nat → Int) (nc cl : Nat) (D : Nat → Ds) : Prop := MT MM B mo ma nc ∧ mI MM (B + 105) 21 = iI (cl : Int) ∧ cl ≤ 12 ∧ ∀ c, c < cl → QM MM B true mo ma nc c (D c)
section
variable {n : Nat} {E : zE} {S : zS} {M M' MM MM' : zH} {B : Nat} {Ls : Nat → Lw} {x : Sto} {mo ma : Nat → Int} {nc cl c : Nat} {DD : Nat → Ds}
theorem mru_b {b j : Nat} (h : mruX B b j) : (b = B + 105 ∧ (j = 8 ∨ j = 20 ∨ j = 34 ∨ j = 38 ∨ j = 39 ∨ j = 40 ∨ j = 50 ∨ j = 51 ∨ j = 53)) ∨ (b = B + 107 ∧ 4 ≤ j ∧ j < 54) ∨ (b = B + 110 ∧ j < 800) ∨ b = B + 111 ∨ (B + 123 ≤ b ∧ b ≤ B + 126) := by
  unfold mruX mdX paX rmX fScr mScr smX rkX at h
  omega
theorem MC.mru (h : MC MM B mo ma nc cl DD) (hA : zAg (mruX B) MM MM') : MC MM' B mo ma nc cl DD := ⟨h.1.ag hA (fun j q => by have := mru_b q; omega) (fun j q => by have := mru_b q; omega), by rw [(hA _ _ (fun q => by have := mru_b q; omega)).1]; exact h.2.1, h.2.2.1, fun c hc => (h.2.2.2 c hc).fr hA (fun j q => by have := mru_b q; omega)⟩
theorem mr_rep (hS : ShOK S B) (hn : 1000 ≤ n) (hc : c < cl) (hD : 0 ≤ (DD c).1 ∧ (DD c).1 ≤ 3 ∧ 1 ≤ (DD c).2.1 ∧ (DD c).2.1 ≤ 20) (ht : ∀ g, (DD c).2.2.2.2 = some g → tst g) (r140 : Nat × Int32 × Int32 × zH → Option (Int32 × zH)) (x1 : Int32) : ∀ (r i fuel : Nat) (M : zH) (x : Sto) (k : Nat), i + r = (DD c).2.1.toNat → r < fuel → MC M B mo ma nc cl DD → MRS M B Ls x → StO x k → k + r ≤ 1000 → (repO (DD c) Ls r x = none → ∃ M', zfix (fun r150 s => F_Mo_orders_L150 n E S r140 r150 s.1 s.2.1 s.2.2.1 s.2.2.2.1 s.2.2.2.2) fuel (B + 105, x1, iI (c : Int), iI (i : Int), M) = gvM n E S B x1 (iI (c : Int)) M' ∧ mI M' (B + 105) 20 = 0 ∧ zAg (mruX B) M M') ∧ ∀ y, repO (DD c) Ls r x = some y → ∃ M', zfix (fun r150 s => F_Mo_orders_L150 n E S r140 r150 s.1 s.2.1 s.2.2.1 s.2.2.2.1 s.2.2.2.2) fuel (B + 105, x1, iI (c : Int), iI (i : Int), M) = r140 (B + 105, x1, iI ((c + 1 : Nat) : Int), M') ∧ MRS M' B Ls y ∧ StO y (k + r) ∧ zAg (mruX B) M M' := by
  intro r
  induction r with
  | zero =>
    intro i fuel M x k hi hf hT hR hO hk
    obtain ⟨fuel, rfl⟩ : ∃ f', fuel = f' + 1 := ⟨fuel - 1, by omega⟩
    refine ⟨fun e => (by cases e), fun y e => ?_⟩
    have : x = y := Option.some.inj e
    subst this
    have hcl := hT.2.2.1
    obtain ⟨sg, q0, q1, q7, _⟩ := hT.2.2.2 c hc
    have k7 : mI M (B + 134) (8 * c + 7) = iI (DD c).2.1 := q7 rfl
    refine ⟨M, ?_, hR, hO, zAg.rfl'⟩
    show F_Mo_orders_L150 n E S r140 _ (B + 105) x1 (iI (c : Int)) (iI (i : Int)) M = _
    unfold F_Mo_orders_L150
    rw [hS.g105_49, obs, iL8, iI_mul, show (7 : Int32) = iI 7 by decide, iI_add, hS.r134 (by omega) (by omega), obs, show ((8 : Int) * (c : Int) + 7).toNat = 8 * c + 7 by omega, k7, if_pos (cleT (by omega) (by omega) (by omega)), iL1, iI_add]
    rfl
  | succ r ih =>
    intro i fuel M x k hi hf hT hR hO hk
    obtain ⟨fuel, rfl⟩ : ∃ f', fuel = f' + 1 := ⟨fuel - 1, by omega⟩
    have hcl := hT.2.2.1
    have cs := mr_step (n := n) (E := E) hS hn hR hO (by omega) (by omega : c < 12) hT.1 (hT.2.2.2 c hc) ⟨hD.1, hD.2.1⟩ ht
    obtain ⟨sg, q0, q1, q7, _⟩ := hT.2.2.2 c hc
    have k7 : mI M (B + 134) (8 * c + 7) = iI (DD c).2.1 := q7 rfl
    have er : repO (DD c) Ls (r + 1) x = match stepO (DD c) Ls x with
      | none => none
      | some y => repO (DD c) Ls r y := rfl
    rw [er]
    have red : ∀ rec, F_Mo_orders_L150 n E S r140 rec (B + 105) x1 (iI (c : Int)) (iI (i : Int)) M = (F_Mo_run n E S (B + 105) (iI ((8 * c : Nat) : Int)) M).bind fun q_4 => if 0 ≤ q_4.1 then rec (B + 105, x1, iI (c : Int), iI ((i + 1 : Nat) : Int), q_4.2) else gvM n E S B x1 (iI (c : Int)) q_4.2 := fun rec => by
      unfold F_Mo_orders_L150
      rw [hS.g105_49, obs, iL8, iI_mul, show (7 : Int32) = iI 7 by decide, iI_add, hS.r134 (by omega) (by omega), obs, show ((8 : Int) * (c : Int) + 7).toNat = 8 * c + 7 by omega, k7, if_neg (cleF (by omega) (by omega) (by omega)), iL1, iI_add]
      rfl
    have eq : zfix (fun r150 s => F_Mo_orders_L150 n E S r140 r150 s.1 s.2.1 s.2.2.1 s.2.2.2.1 s.2.2.2.2) (fuel + 1) (B + 105, x1, iI (c : Int), iI (i : Int), M) = (F_Mo_run n E S (B + 105) (iI ((8 * c : Nat) : Int)) M).bind fun q_4 => if 0 ≤ q_4.1 then zfix (fun r150 s => F_Mo_orders_L150 n E S r140 r150 s.1 s.2.1 s.2.2.1 s.2.2.2.1 s.2.2.2.2) fuel (B + 105, x1, iI (c : Int), iI ((i + 1 : Nat) : Int), q_4.2) else gvM n E S B x1 (iI (c : Int)) q_4.2 := red _
    rw [eq]
    cases hs : stepO (DD c) Ls x with
    | none =>
      obtain ⟨M', e1, y1, z1⟩ := cs.1 hs
      refine ⟨fun _ => ⟨M', ?_, y1, z1⟩, fun y e => (by cases e)⟩
      rw [e1, obs]
      exact if_neg (show ¬ (0 : Int32) ≤ iI (-3) by decide)
    | some z =>
      obtain ⟨M1, e1, h1, z1⟩ := cs.2 z hs
      have hO1 := stepO_ok hO ⟨hD.1, hD.2.1⟩ hs
      obtain ⟨i1, i2⟩ := ih (i + 1) fuel M1 z (k + 1) (by omega) (by omega) (hT.mru z1) h1 hO1 (by omega)
      rw [e1, obs]
      dsimp only
      rw [if_pos (show (0 : Int32) ≤ iI 0 by decide)]
      refine ⟨fun e => ?_, fun y e => ?_⟩
      · obtain ⟨M', e2, y2, z2⟩ := i1 e
        exact ⟨M', e2, y2, z1.trans z2⟩
      · obtain ⟨M', e2, h2, o2, z2⟩ := i2 y e
        exact ⟨M', e2, h2, by rw [show k + (r + 1) = k + 1 + r by omega]; exact o2, z1.trans z2⟩
theorem mr_run (hS : ShOK S B) (hn : 1000 ≤ n) (hcl : cl ≤ 12) (hD : ∀ c, c < cl → (0 ≤ (DD c).1 ∧ (DD c).1 ≤ 3 ∧ 1 ≤ (DD c).2.1 ∧ (DD c).2.1 ≤ 20) ∧ ∀ g, (DD c).2.2.2.2 = some g → tst g) (x1 : Int32) : ∀ (r c fuel : Nat) (M : zH) (x : Sto) (k : Nat), c + r = cl → r < fuel → MC M B mo ma nc cl DD → MRS M B Ls x → StO x k → k + 20 * r ≤ 1000 → (∀ i, runO DD Ls r c x = Sum.inl i → ∃ M', zfix (fun r140 s => F_Mo_orders_L140 n E S r140 s.1 s.2.1 s.2.2.1 s.2.2.2) fuel (B + 105, x1, iI (c : Int), M) = gvM n E S B x1 (iI (i : Int)) M' ∧ mI M' (B + 105) 20 = 0 ∧ zAg (mruX B) M M') ∧ ∀ y, runO DD Ls r c x = Sum.inr y → ∃ M', zfix (fun r140 s => F_Mo_orders_L140 n E S r140 s.1 s.2.1 s.2.2.1 s.2.2.2) fuel (B + 105, x1, iI (c : Int), M) = F_Mo_tell n E S (B + 105) (iI y.2.2.1) M' ∧ MRS M' B Ls y ∧ zAg (mruX B) M M' := by
  intro r
  induction r with
  | zero =>
    intro c fuel M x k hc hf hT hR hO hk
    obtain ⟨fuel, rfl⟩ : ∃ f', fuel = f' + 1 := ⟨fuel - 1, by omega⟩
    refine ⟨fun i e => (by cases e), fun y e => ?_⟩
    have : x = y := Sum.inr.inj e
    subst this
    refine ⟨M, ?_, hR, zAg.rfl'⟩
    show F_Mo_orders_L140 n E S _ (B + 105) x1 (iI (c : Int)) M = _
    unfold F_Mo_orders_L140
    rw [hS.i105, obs, hT.2.1, if_pos (cleT (by omega) (by omega) (by omega)), hS.i105, obs, hR.2.2.1, bind_e]
  | succ r ih =>
    intro c fuel M x k hc hf hT hR hO hk
    obtain ⟨fuel, rfl⟩ : ∃ f', fuel = f' + 1 := ⟨fuel - 1, by omega⟩
    have hcc : c < cl := by omega
    have hd := hD c hcc
    have er : runO DD Ls (r + 1) c x = match repO (DD c) Ls (DD c).2.1.toNat x with
      | none => Sum.inl c
      | some y => runO DD Ls r (c + 1) y := rfl
    rw [er]
    obtain ⟨i1, i2⟩ := mr_rep (n := n) (E := E) hS hn hcc hd.1 hd.2 (zfix (fun r140 s => F_Mo_orders_L140 n E S r140 s.1 s.2.1 s.2.2.1 s.2.2.2) fuel) x1 (DD c).2.1.toNat 0 n M x k (by omega) (by omega) hT hR hO (by omega)
    have red : ∀ rec, F_Mo_orders_L140 n E S rec (B + 105) x1 (iI (c : Int)) M = zfix (fun r150 s => F_Mo_orders_L150 n E S rec r150 s.1 s.2.1 s.2.2.1 s.2.2.2.1 s.2.2.2.2) n (B + 105, x1, iI (c : Int), iI ((0 : Nat) : Int), M) := fun rec => by
      unfold F_Mo_orders_L140 F_Mo_orders_b150
      rw [hS.i105, obs, hT.2.1, if_neg (cleF (by omega) (by omega) (by omega))]
      rfl
    have eq : zfix (fun r140 s => F_Mo_orders_L140 n E S r140 s.1 s.2.1 s.2.2.1 s.2.2.2) (fuel + 1) (B + 105, x1, iI (c : Int), M) = zfix (fun r150 s => F_Mo_orders_L150 n E S (zfix (fun r140 s => F_Mo_orders_L140 n E S r140 s.1 s.2.1 s.2.2.1 s.2.2.2) fuel) r150 s.1 s.2.1 s.2.2.1 s.2.2.2.1 s.2.2.2.2) n (B + 105, x1, iI (c : Int), iI ((0 : Nat) : Int), M) := red _
    rw [eq]
    cases hs : repO (DD c) Ls (DD c).2.1.toNat x with
    | none =>
      obtain ⟨M', e1, y1, z1⟩ := i1 hs
      refine ⟨fun i e => ?_, fun y e => (by cases e)⟩
      have : c = i := Sum.inl.inj e
      subst this
      exact ⟨M', e1, y1, z1⟩
    | some z =>
      obtain ⟨M1, e1, h1, o1, z1⟩ := i2 z hs
      have o1' : StO z (k + 20) := ⟨o1.1, o1.2.1, o1.2.2.1, ⟨o1.2.2.2.1.1, by have := o1.2.2.2.1.2; omega⟩, o1.2.2.2.2⟩
      obtain ⟨j1, j2⟩ := ih (c + 1) fuel M1 z (k + 20) (by omega) (by omega) (hT.mru z1) h1 o1' (by omega)
      rw [e1]
      dsimp only
      refine ⟨fun i e => ?_, fun y e => ?_⟩
      · obtain ⟨M', e2, y2, z2⟩ := j1 i e
        exact ⟨M', e2, y2, z1.trans z2⟩
      · obtain ⟨M', e2, h2, z2⟩ := j2 y e
        exact ⟨M', e2, h2, z1.trans z2⟩
end
