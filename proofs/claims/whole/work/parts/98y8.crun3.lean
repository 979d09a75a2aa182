/-! orders: running, the class (3): the loops -/
/-- k times -/
def repO (D : Ds) (Ls : Nat → Lw) : Nat → Sto → Option Sto
  | 0, x => some x
  | k + 1, x => match stepO D Ls x with
    | none => none
    | some y => repO D Ls k y
/-- r clauses from c on: the state, or where it stopped -/
def runO (D : Nat → Ds) (Ls : Nat → Lw) : Nat → Nat → Sto → Sum Nat Sto
  | 0, _, x => Sum.inr x
  | r + 1, c, x => match repO (D c) Ls (D c).2.1.toNat x with
    | none => Sum.inl c
    | some y => runO D Ls r (c + 1) y
section
variable {n : Nat} {E : zE} {S : zS} {M : zH} {B : Nat} {Ls : Nat → Lw} {x : Sto} {len cl : Nat} {st : Nat → Int} {DD : Nat → Ds} {wm : Nat → Nat} {mk : Nat → Nat → Nat} {c : Nat}
theorem cr_rep (hS : ShOK S B) (hn : 1000 ≤ n) (hc : c < cl) (hD : 0 ≤ (DD c).1 ∧ (DD c).1 ≤ 3 ∧ 1 ≤ (DD c).2.1 ∧ (DD c).2.1 ≤ 20) (r13 : Nat × Nat × Nat × Nat × Int32 × zH → Option (Int32 × zH)) : ∀ (r i fuel : Nat) (M : zH) (x : Sto) (k : Nat), i + r = (DD c).2.1.toNat → r < fuel → TR S M B len cl st DD wm mk → RS S M B Ls x → StO x k → k + r ≤ 1000 → (repO (DD c) Ls r x = none → ∃ M', zfix (fun r61 s => F_Ru_run_L61 n E S r13 r61 s.1 s.2.1 s.2.2.1 s.2.2.2.1 s.2.2.2.2.1 s.2.2.2.2.2.1 s.2.2.2.2.2.2.1 s.2.2.2.2.2.2.2.1 s.2.2.2.2.2.2.2.2.1 s.2.2.2.2.2.2.2.2.2.1 s.2.2.2.2.2.2.2.2.2.2) fuel (B + 81, B + 1, B + 63, B + 70, iI (c : Int), iI (mk c 0 : Int), iI (mk c 1 : Int), iI (mk c 2 : Int), iI (mk c 3 : Int), iI (i : Int), M) = some (iI (c : Int), M') ∧ zAg (ruX B) M M') ∧ ∀ y, repO (DD c) Ls r x = some y → ∃ M', zfix (fun r61 s => F_Ru_run_L61 n E S r13 r61 s.1 s.2.1 s.2.2.1 s.2.2.2.1 s.2.2.2.2.1 s.2.2.2.2.2.1 s.2.2.2.2.2.2.1 s.2.2.2.2.2.2.2.1 s.2.2.2.2.2.2.2.2.1 s.2.2.2.2.2.2.2.2.2.1 s.2.2.2.2.2.2.2.2.2.2) fuel (B + 81, B + 1, B + 63, B + 70, iI (c : Int), iI (mk c 0 : Int), iI (mk c 1 : Int), iI (mk c 2 : Int), iI (mk c 3 : Int), iI (i : Int), M) = r13 (B + 81, B + 1, B + 63, B + 70, iI ((c + 1 : Nat) : Int), M') ∧ RS S M' B Ls y ∧ StO y (k + r) ∧ zAg (ruX B) M M' := by
  intro r
  induction r with
  | zero =>
    intro i fuel M x k hi hf hT hR hO hk
    obtain ⟨fuel, rfl⟩ : ∃ f', fuel = f' + 1 := ⟨fuel - 1, by omega⟩
    refine ⟨fun e => (by cases e), fun y e => ?_⟩
    have : x = y := Option.some.inj e
    subst this
    obtain ⟨_, _, _, _, hcl, hkd, _⟩ := hT.1
    obtain ⟨_, kk2', _⟩ := hkd c hc
    have kk2 : mI M (B + 73) c = iI (DD c).2.1 := kk2'
    refine ⟨M, ?_, hR, hO, zAg.rfl'⟩
    show F_Ru_run_L61 n E S r13 _ (B + 81) (B + 1) (B + 63) (B + 70) (iI (c : Int)) (iI (mk c 0 : Int)) (iI (mk c 1 : Int)) (iI (mk c 2 : Int)) (iI (mk c 3 : Int)) (iI (i : Int)) M = _
    unfold F_Ru_run_L61
    rw [hS.g70_2, obs, hS.r73 (by omega) (by omega), obs, Int.toNat_natCast, kk2, if_pos (cleT (by omega) (by omega) (by omega)), iL1, iI_add]
    rfl
  | succ r ih =>
    intro i fuel M x k hi hf hT hR hO hk
    obtain ⟨fuel, rfl⟩ : ∃ f', fuel = f' + 1 := ⟨fuel - 1, by omega⟩
    have cs := cr_step (n := n) (E := E) hS hn hT hc hR hO (by omega) (i := i) (by omega)
    have er : repO (DD c) Ls (r + 1) x = match stepO (DD c) Ls x with
      | none => none
      | some y => repO (DD c) Ls r y := rfl
    rw [er]
    cases hs : stepO (DD c) Ls x with
    | none =>
      obtain ⟨M', e1, z1⟩ := cs.1 hs
      exact ⟨fun _ => ⟨M', e1 _ _, z1⟩, fun y e => (by cases e)⟩
    | some z =>
      obtain ⟨M1, e1, h1, z1⟩ := cs.2 z hs
      have hO1 := stepO_ok hO ⟨hD.1, hD.2.1⟩ hs
      have hT1 := hT.ag z1 (fun b j q1 q2 => by unfold ruX dfX cScr; omega)
      obtain ⟨i1, i2⟩ := ih (i + 1) fuel M1 z (k + 1) (by omega) (by omega) hT1 h1 hO1 (by omega)
      have eq : zfix (fun r61 s => F_Ru_run_L61 n E S r13 r61 s.1 s.2.1 s.2.2.1 s.2.2.2.1 s.2.2.2.2.1 s.2.2.2.2.2.1 s.2.2.2.2.2.2.1 s.2.2.2.2.2.2.2.1 s.2.2.2.2.2.2.2.2.1 s.2.2.2.2.2.2.2.2.2.1 s.2.2.2.2.2.2.2.2.2.2) (fuel + 1) (B + 81, B + 1, B + 63, B + 70, iI (c : Int), iI (mk c 0 : Int), iI (mk c 1 : Int), iI (mk c 2 : Int), iI (mk c 3 : Int), iI (i : Int), M) = zfix (fun r61 s => F_Ru_run_L61 n E S r13 r61 s.1 s.2.1 s.2.2.1 s.2.2.2.1 s.2.2.2.2.1 s.2.2.2.2.2.1 s.2.2.2.2.2.2.1 s.2.2.2.2.2.2.2.1 s.2.2.2.2.2.2.2.2.1 s.2.2.2.2.2.2.2.2.2.1 s.2.2.2.2.2.2.2.2.2.2) fuel (B + 81, B + 1, B + 63, B + 70, iI (c : Int), iI (mk c 0 : Int), iI (mk c 1 : Int), iI (mk c 2 : Int), iI (mk c 3 : Int), iI ((i + 1 : Nat) : Int), M1) := e1 r13 _
      rw [eq]
      dsimp only
      refine ⟨fun e => ?_, fun y e => ?_⟩
      · obtain ⟨M', e2, z2⟩ := i1 e
        exact ⟨M', e2, z1.trans z2⟩
      · obtain ⟨M', e2, h2, o2, z2⟩ := i2 y e
        exact ⟨M', e2, h2, by rw [show k + (r + 1) = k + 1 + r by omega]; exact o2, z1.trans z2⟩
theorem cr_run (hS : ShOK S B) (hn : 1000 ≤ n) (hcl : cl ≤ 12) (hD : ∀ c, c < cl → 0 ≤ (DD c).1 ∧ (DD c).1 ≤ 3 ∧ 1 ≤ (DD c).2.1 ∧ (DD c).2.1 ≤ 20) : ∀ (r c fuel : Nat) (M : zH) (x : Sto) (k : Nat), c + r = cl → r < fuel → TR S M B len cl st DD wm mk → RS S M B Ls x → StO x k → k + 20 * r ≤ 1000 → (∀ i, runO DD Ls r c x = Sum.inl i → i < cl ∧ ∃ M', zfix (fun r13 s => F_Ru_run_L13 n E S r13 s.1 s.2.1 s.2.2.1 s.2.2.2.1 s.2.2.2.2.1 s.2.2.2.2.2) fuel (B + 81, B + 1, B + 63, B + 70, iI (c : Int), M) = some (iI (i : Int), M') ∧ zAg (ruX B) M M') ∧ ∀ y, runO DD Ls r c x = Sum.inr y → ∃ M', zfix (fun r13 s => F_Ru_run_L13 n E S r13 s.1 s.2.1 s.2.2.1 s.2.2.2.1 s.2.2.2.2.1 s.2.2.2.2.2) fuel (B + 81, B + 1, B + 63, B + 70, iI (c : Int), M) = some (iI (-1), M') ∧ RS S M' B Ls y ∧ StO y (k + 20 * r) ∧ zAg (ruX B) M M' := by
  intro r
  induction r with
  | zero =>
    intro c fuel M x k hc hf hT hR hO hk
    obtain ⟨fuel, rfl⟩ : ∃ f', fuel = f' + 1 := ⟨fuel - 1, by omega⟩
    refine ⟨fun i e => (by cases e), fun y e => ?_⟩
    have : x = y := Sum.inr.inj e
    subst this
    obtain ⟨_, _, _, h6, _⟩ := hT.1
    refine ⟨M, ?_, hR, hO, zAg.rfl'⟩
    show F_Ru_run_L13 n E S _ (B + 81) (B + 1) (B + 63) (B + 70) (iI (c : Int)) M = _
    unfold F_Ru_run_L13
    rw [hS.i70, obs, h6, if_pos (cleT (by omega) (by omega) (by omega))]
    rfl
  | succ r ih =>
    intro c fuel M x k hc hf hT hR hO hk
    obtain ⟨fuel, rfl⟩ : ∃ f', fuel = f' + 1 := ⟨fuel - 1, by omega⟩
    have hcc : c < cl := by omega
    obtain ⟨_, _, _, h6, _⟩ := id hT.1
    have hd := hD c hcc
    have red : ∀ rec, F_Ru_run_L13 n E S rec (B + 81) (B + 1) (B + 63) (B + 70) (iI (c : Int)) M = F_Ru_run_b61 n E S rec (B + 81, B + 1, B + 63, B + 70, iI (c : Int), iI (mk c 0 : Int), iI (mk c 1 : Int), iI (mk c 2 : Int), iI (mk c 3 : Int), iI ((0 : Nat) : Int), M) := fun rec => by
      unfold F_Ru_run_L13
      rw [hS.i70, obs, h6, if_neg (cleF (by omega) (by omega) (by omega)), show (0 : Int32) = iI ((0 : Nat) : Int) by decide, s_markOf hT.1 hcc (by decide), obs, show (1 : Int32) = iI ((1 : Nat) : Int) by decide, s_markOf hT.1 hcc (by decide), obs, show (2 : Int32) = iI ((2 : Nat) : Int) by decide, s_markOf hT.1 hcc (by decide), obs, show (3 : Int32) = iI ((3 : Nat) : Int) by decide, s_markOf hT.1 hcc (by decide), obs]
    have er : runO DD Ls (r + 1) c x = match repO (DD c) Ls (DD c).2.1.toNat x with
      | none => Sum.inl c
      | some y => runO DD Ls r (c + 1) y := rfl
    rw [er]
    obtain ⟨i1, i2⟩ := cr_rep (n := n) (E := E) hS hn hcc hd (zfix (fun r13 s => F_Ru_run_L13 n E S r13 s.1 s.2.1 s.2.2.1 s.2.2.2.1 s.2.2.2.2.1 s.2.2.2.2.2) fuel) (DD c).2.1.toNat 0 n M x k (by omega) (by omega) hT hR hO (by omega)
    have eq : zfix (fun r13 s => F_Ru_run_L13 n E S r13 s.1 s.2.1 s.2.2.1 s.2.2.2.1 s.2.2.2.2.1 s.2.2.2.2.2) (fuel + 1) (B + 81, B + 1, B + 63, B + 70, iI (c : Int), M) = F_Ru_run_b61 n E S (zfix (fun r13 s => F_Ru_run_L13 n E S r13 s.1 s.2.1 s.2.2.1 s.2.2.2.1 s.2.2.2.2.1 s.2.2.2.2.2) fuel) (B + 81, B + 1, B + 63, B + 70, iI (c : Int), iI (mk c 0 : Int), iI (mk c 1 : Int), iI (mk c 2 : Int), iI (mk c 3 : Int), iI ((0 : Nat) : Int), M) := red _
    rw [eq]
    cases hs : repO (DD c) Ls (DD c).2.1.toNat x with
    | none =>
      obtain ⟨M', e1, z1⟩ := i1 hs
      refine ⟨fun i e => ?_, fun y e => (by cases e)⟩
      have : c = i := Sum.inl.inj e
      subst this
      exact ⟨hcc, M', e1, z1⟩
    | some z =>
      obtain ⟨M1, e1, h1, o1, z1⟩ := i2 z hs
      have hT1 := hT.ag z1 (fun b j q1 q2 => by unfold ruX dfX cScr; omega)
      have o1' : StO z (k + 20) := ⟨o1.1, o1.2.1, o1.2.2.1, ⟨o1.2.2.2.1.1, by have := o1.2.2.2.1.2; omega⟩, o1.2.2.2.2⟩
      obtain ⟨j1, j2⟩ := ih (c + 1) fuel M1 z (k + 20) (by omega) (by omega) hT1 h1 o1' (by omega)
      have eq2 : F_Ru_run_b61 n E S (zfix (fun r13 s => F_Ru_run_L13 n E S r13 s.1 s.2.1 s.2.2.1 s.2.2.2.1 s.2.2.2.2.1 s.2.2.2.2.2) fuel) (B + 81, B + 1, B + 63, B + 70, iI (c : Int), iI (mk c 0 : Int), iI (mk c 1 : Int), iI (mk c 2 : Int), iI (mk c 3 : Int), iI ((0 : Nat) : Int), M) = zfix (fun r13 s => F_Ru_run_L13 n E S r13 s.1 s.2.1 s.2.2.1 s.2.2.2.1 s.2.2.2.2.1 s.2.2.2.2.2) fuel (B + 81, B + 1, B + 63, B + 70, iI ((c + 1 : Nat) : Int), M1) := e1
      rw [eq2]
      dsimp only
      refine ⟨fun i e => ?_, fun y e => ?_⟩
      · obtain ⟨hi, M', e2, z2⟩ := j1 i e
        exact ⟨hi, M', e2, z1.trans z2⟩
      · obtain ⟨M', e2, h2, o2, z2⟩ := j2 y e
        exact ⟨M', e2, h2, by rw [show k + 20 * (r + 1) = k + 20 + 20 * r by omega]; exact o2, z1.trans z2⟩
end
