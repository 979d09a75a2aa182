/-! orders: running, the class -/
abbrev Sto : Type := Nt × Pst × Int × Int
def holdO (D : Ds) (w : Nat → Int) : Bool := match D.2.2.2.2 with
  | none => true
  | some g => decide (g w = some 1)
def argO (D : Ds) (w : Nat → Int) : Option (Int × Int) := if D.1 = 3 then some (0, 0) else match D.2.2.1 w with
  | none => none
  | some a => match D.2.2.2.1 w with
    | none => none
    | some b => some (a, b)
def doO (D : Ds) (Ls : Nat → Lw) (x : Sto) (a b : Int) : Option Sto := if pfA x.1 Ls D.1 a b < 0 then none else some (pfN x.1 Ls D.1 a b, pfT x.1 Ls x.2.1 D.1 a b, x.2.2.1 + 1, if D.1 = 3 then pfA x.1 Ls D.1 a b else x.2.2.2)
def wS (Ls : Nat → Lw) (x : Sto) : Nat → Int := wO x.1 Ls x.2.2.1 x.2.2.2
def doA (D : Ds) (Ls : Nat → Lw) (x : Sto) : Option Sto := match argO D (wS Ls x) with
  | none => none
  | some p => doO D Ls x p.1 p.2
def stepO (D : Ds) (Ls : Nat → Lw) (x : Sto) : Option Sto := if holdO D (wS Ls x) = true then doA D Ls x else some x
/-- a state that can be, with at most k done -/
def StO (x : Sto) (k : Nat) : Prop := PJ x.1 x.2.1 ∧ NdOK x.1 ∧ x.1 9 0 ≤ 999 ∧ (0 ≤ x.2.2.1 ∧ x.2.2.1 ≤ k) ∧ (-1 ≤ x.2.2.2 ∧ x.2.2.2 ≤ 297)
section
variable {n : Nat} {E : zE} {S : zS} {M : zH} {B : Nat} {Ls : Nat → Lw} {D : Ds} {x : Sto}
theorem doO_ok {k : Nat} (h : StO x k) (hk : 0 ≤ D.1 ∧ D.1 ≤ 3) {a b : Int} {y : Sto} (e : doO D Ls x a b = some y) : StO y (k + 1) := by
  obtain ⟨h1, h2, h3, h4, h5⟩ := h
  unfold doO at e
  have pc := pfA_c (Ls := Ls) (a := a) (b := b) h2 hk
  by_cases c : pfA x.1 Ls D.1 a b < 0
  · rw [if_pos c] at e; cases e
  · rw [if_neg c] at e
    have := Option.some.inj e
    rw [← this]
    have pn := pfN_ok (Ls := Ls) (a := a) (b := b) h2 h3 hk
    refine ⟨h1.pf h2 h3 hk, pn.1, pn.2.1, ⟨by show 0 ≤ x.2.2.1 + 1; omega, by show x.2.2.1 + 1 ≤ ((k + 1 : Nat) : Int); omega⟩, ?_⟩
    show -1 ≤ (if D.1 = 3 then pfA x.1 Ls D.1 a b else x.2.2.2) ∧ (if D.1 = 3 then pfA x.1 Ls D.1 a b else x.2.2.2) ≤ 297
    split <;> omega
theorem stepO_ok {k : Nat} (h : StO x k) (hk : 0 ≤ D.1 ∧ D.1 ≤ 3) {y : Sto} (e : stepO D Ls x = some y) : StO y (k + 1) := by
  unfold stepO at e
  by_cases c : holdO D (wS Ls x) = true
  · rw [if_pos c] at e
    unfold doA at e
    cases ha : argO D (wS Ls x) with
    | none => rw [ha] at e; cases e
    | some p => rw [ha] at e; exact doO_ok h hk e
  · rw [if_neg c] at e
    have := Option.some.inj e
    rw [← this]
    exact ⟨h.1, h.2.1, h.2.2.1, ⟨h.2.2.2.1.1, by have := h.2.2.2.1.2; omega⟩, h.2.2.2.2⟩
/-- the class's runner and night -/
def RS (S : zS) (M : zH) (B : Nat) (Ls : Nat → Lw) (x : Sto) : Prop := CN S M B (B + 1) x.1 Ls ∧ PC M B x.2.1 ∧ mI M (B + 81) 4 = iI x.2.2.1 ∧ mI M (B + 81) 5 = iI x.2.2.2
def ruX (B : Nat) : Nat → Nat → Prop := fun b j => dfX B b j ∨ b = B + 83 ∨ b = B + 84 ∨ (b = B + 81 ∧ (j = 4 ∨ j = 5))
/-- the text that is run -/
def TR (S : zS) (M : zH) (B len cl : Nat) (st : Nat → Int) (D : Nat → Ds) (wm : Nat → Nat) (mk : Nat → Nat → Nat) : Prop := TxC S M (B + 70) len st cl (fun c => (D c).1) (fun c => (D c).2.1) (fun c => (wm c : Int)) mk ∧ ∀ c, c < cl → wm c < 524288 ∧ ((D c).1 ≠ 3 → (sgC st 19 (mk c 0) (mk c 1) 50 (D c).2.2.1 ∧ dpw (wm c) (D c).2.2.1) ∧ (sgC st 19 (mk c 1) (mk c 2) 50 (D c).2.2.2.1 ∧ dpw (wm c) (D c).2.2.2.1)) ∧ tgC st 19 (mk c 2) (mk c 3) (wm c) (D c).2.2.2.2 ∧ (mk c 0 ≤ mk c 1 ∧ mk c 1 ≤ mk c 2 ∧ mk c 2 ≤ mk c 3 ∧ mk c 3 ≤ len) ∧ 1 ≤ (D c).2.1
theorem TR.ag {M' : zH} {len cl : Nat} {st : Nat → Int} {D : Nat → Ds} {wm : Nat → Nat} {mk : Nat → Nat → Nat} {X : Nat → Nat → Prop} (h : TR S M B len cl st D wm mk) (hA : zAg X M M') (hx : ∀ b j, B + 70 ≤ b → b < B + 76 → ¬ X b j) : TR S M' B len cl st D wm mk := ⟨h.1.ag hA (fun b j q1 q2 => hx b j q1 (by omega)), h.2⟩
theorem WdR.m83 {M' : zH} {nw : Nat} {w : Nat → Int} (h : WdR S M (B + 84) nw w) (hA : zAg (fun b _ => b = B + 83) M M') : WdR S M' (B + 84) nw w := ⟨h.1, h.2.1, h.2.2.1, fun i hi => by rw [(hA _ _ (by omega)).1]; exact h.2.2.2 i hi⟩
/-- a piece of code of the text -/
theorem s_piece (hS : ShOK S B) (hn : 1000 ≤ n) {len cl : Nat} {st : Nat → Int} {D : Nat → Ds} {wm : Nat → Nat} {mk : Nat → Nat → Nat} (h : TR S M B len cl st D wm mk) {w w' : Nat → Int} (hW : WdR S M (B + 84) 19 w') {c : Nat} (hw : ∀ i, i < 11 ∨ (wm c).testBit i = true → w' i = w i) (hzb : ∀ i, zB (w i)) {i j : Nat} {f : Fn} (hs : sgC st 19 i j 50 f) (hd : dpw (wm c) f) (hj : j ≤ len) : ∃ M', F_Mc_work n E S (B + 82) (B + 70) (iI (i : Int)) (iI (j : Int)) (B + 84) M = some (bkC (f w), M') ∧ zAg (fun b _ => b = B + 83) M M' ∧ ∀ v, f w = some v → zB v := by
  have hl : len ≤ 400 := by have := h.1.1.2.2.2.1; have := h.1.1.2.2.2.2.1; omega
  have i1 := hs.1
  obtain ⟨M', e, hA⟩ := s_work (n := n) (E := E) (mc := B + 82) (t := B + 70) (wq := B + 84) (q := B + 83) (ts := B + 70 + 1) ⟨hS.k 82 (by decide), hS.f 82 0 (by decide) (by decide), hS.k 83 (by decide), hS.n 83 (by decide)⟩ (by omega) (by omega) (by omega) h.1.1 hW (p0 := i) (p1 := j) (by omega) (by omega) (by omega)
  rw [Nat.min_eq_left hj, hs.run (by omega) (by omega) (by omega) w', hd w' w hw] at e
  refine ⟨M', e, hA, fun v hv => ?_⟩
  have := hs.run (k := 500) (by omega) (by omega) (by omega) w
  rw [hv] at this
  exact rC_ge (nw := 19) (fun i _ => hzb i) (fun i hi => (h.1.1.2.2.2.2.2.2 i (by omega)).2) 500 i [] (by simp) v this
theorem bk_n {v : Int} (h : zB v) : ¬ iI v = (-2147483648 : Int32) := ceqF (y := -2147483648) (by have := h.1; omega) (by have := h.1; omega) (by have := h.2; omega) (by omega) (by omega)
variable {len cl : Nat} {st : Nat → Int} {DD : Nat → Ds} {wm : Nat → Nat} {mk : Nat → Nat → Nat} {c : Nat} {x5 x6 x7 x8 x9 : Int32}
theorem cr_do (hS : ShOK S B) (hn : 1000 ≤ n) (hT : TR S M B len cl st DD wm mk) (hc : c < cl) (hR : RS S M B Ls x) {k : Nat} (hO : StO x k) {a b : Int} (ha : zB a) (hb : zB b) : (doO (DD c) Ls x a b = none → ∃ M', (∀ r13 r61, F_Ru_run_b185 n E S r13 r61 (B + 81) (B + 1) (B + 63) (B + 70) (iI (c : Int)) x5 x6 x7 x8 x9 (iI a) (iI b) M = some (iI (c : Int), M')) ∧ zAg (ruX B) M M') ∧ ∀ y, doO (DD c) Ls x a b = some y → ∃ M', (∀ r13 r61, F_Ru_run_b185 n E S r13 r61 (B + 81) (B + 1) (B + 63) (B + 70) (iI (c : Int)) x5 x6 x7 x8 x9 (iI a) (iI b) M = r61 (B + 81, B + 1, B + 63, B + 70, iI (c : Int), x5, x6, x7, x8, x9 + 1, M')) ∧ RS S M' B Ls y ∧ zAg (ruX B) M M' := by
  obtain ⟨h1, h2, h3, h4⟩ := hR
  obtain ⟨j1, j2, j3, j4, j5⟩ := hO
  obtain ⟨_, _, _, _, hcl, hkd, _⟩ := hT.1
  obtain ⟨kk1, kk2, kk3, kk4, kk5, _⟩ := hkd c hc
  have kq : 0 ≤ (DD c).1 ∧ (DD c).1 ≤ 3 := ⟨kk4, kk5⟩
  obtain ⟨M1, e1, c1, p1, hA1⟩ := s_perform (n := n) (E := E) hS h1 h2 j1 j3 (by omega) (k := (DD c).1) (a := a) (b := b) ⟨kk4, kk5⟩ ha.r hb.r
  have pc := pfA_c (Ls := Ls) (a := a) (b := b) j2 (k := (DD c).1) ⟨kk4, kk5⟩
  have hA1' : zAg (ruX B) M M1 := hA1.mono (fun b j q => Or.inl q)
  have kd1 : mI M1 (B + 72) c = iI (DD c).1 := by rw [(hA1 _ _ (by unfold dfX cScr; omega)).1]; exact kk1
  have hcb : (c : Int) < 12 := by omega
  have red : ∀ r13 r61, F_Ru_run_b185 n E S r13 r61 (B + 81) (B + 1) (B + 63) (B + 70) (iI (c : Int)) x5 x6 x7 x8 x9 (iI a) (iI b) M = if 0 ≤ iI (pfA x.1 Ls (DD c).1 a b) then (zgI S M1 (B + 81) 7 4).bind fun v_10 => (zpI S M1 (B + 81) 7 4 (v_10 + 1)).bind fun m_11 => (zldI S m_11 (B + 72) (iI (c : Int))).bind fun v_12 => if v_12 = 3 then F_Ru_run_b265 n E S r13 r61 (B + 81) (B + 1) (B + 63) (B + 70) (iI (c : Int)) x5 x6 x7 x8 x9 (iI (pfA x.1 Ls (DD c).1 a b)) (B + 81) m_11 else (zgI S m_11 (B + 81) 7 5).bind fun v_14 => F_Ru_run_b265 n E S r13 r61 (B + 81) (B + 1) (B + 63) (B + 70) (iI (c : Int)) x5 x6 x7 x8 x9 v_14 (B + 81) m_11 else some (iI (c : Int), M1) := fun r13 r61 => by
    unfold F_Ru_run_b185
    rw [if_neg (bk_n ha), if_neg (bk_n hb), hS.g81_1, obs, hS.g70_1, obs, hS.r72 (by omega) (by omega), obs, Int.toNat_natCast, kk1, hS.ck80, obs, e1, obs]
  constructor
  · intro e
    have hneg : pfA x.1 Ls (DD c).1 a b < 0 := by
      unfold doO at e
      by_cases z : pfA x.1 Ls (DD c).1 a b < 0
      · exact z
      · rw [if_neg z] at e; cases e
    refine ⟨M1, fun r13 r61 => ?_, hA1'⟩
    rw [red, if_neg (show ¬ (0 : Int32) ≤ iI (pfA x.1 Ls (DD c).1 a b) by rw [iL0]; exact cleF (by omega) (by omega) (by omega))]
  · intro y e
    have hpos : ¬ pfA x.1 Ls (DD c).1 a b < 0 := fun z => by
      unfold doO at e
      rw [if_pos z] at e; cases e
    have ey : y = (pfN x.1 Ls (DD c).1 a b, pfT x.1 Ls x.2.1 (DD c).1 a b, x.2.2.1 + 1, if (DD c).1 = 3 then pfA x.1 Ls (DD c).1 a b else x.2.2.2) := by
      unfold doO at e
      rw [if_neg hpos] at e
      exact (Option.some.inj e).symm
    have q4 : mI M1 (B + 81) 4 = iI x.2.2.1 := by rw [(hA1 _ _ (by unfold dfX cScr; omega)).1]; exact h3
    have q5 : mI M1 (B + 81) 5 = iI x.2.2.2 := by rw [(hA1 _ _ (by unfold dfX cScr; omega)).1]; exact h4
    have hA2 : ∀ v : Int32, zAg (fun b j => b = B + 81 ∧ (j = 4 ∨ j = 5)) M1 (setI (setI M1 (B + 81) 4 (iI (x.2.2.1 + 1))) (B + 81) 5 v) := fun v => (zAg.rfl'.setI ⟨rfl, Or.inl rfl⟩).setI ⟨rfl, Or.inr rfl⟩
    refine ⟨setI (setI M1 (B + 81) 4 (iI (x.2.2.1 + 1))) (B + 81) 5 (iI (if (DD c).1 = 3 then pfA x.1 Ls (DD c).1 a b else x.2.2.2)), fun r13 r61 => ?_, ?_, hA1'.trans ((hA2 _).mono (fun b j q => Or.inr (Or.inr (Or.inr q))))⟩
    · rw [red, if_pos (show (0 : Int32) ≤ iI (pfA x.1 Ls (DD c).1 a b) by rw [iL0]; exact cleT (by omega) (by omega) (by omega)), hS.i81, obs, q4, iL1, iI_add, hS.p81, obs, hS.r72 (by omega) (by omega), obs, Int.toNat_natCast, mI_a (by omega), kd1]
      unfold F_Ru_run_b265 F_Ru_run_b268
      by_cases z : (DD c).1 = 3
      · rw [if_pos z, z, if_pos (show iI 3 = 3 by decide), hS.p81, obs, iL1]
      · rw [if_neg z, if_neg (show ¬ iI (DD c).1 = 3 from ceqF (y := 3) z (by omega) (by omega) (by omega) (by omega)), hS.i81, obs, mI_i (by decide), q5, hS.p81, obs, iL1]
    · rw [ey]
      refine ⟨c1.ag (hA2 _) (fun b j q => by omega), p1.ag (hA2 _) (by omega) (fun j => by omega), ?_, mI_s⟩
      rw [mI_i (by decide), mI_s]
end
