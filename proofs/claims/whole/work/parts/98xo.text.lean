/-! law and orders: the class's clauses -/
section
variable {st : Nat → Int} {nw i j d : Nat} {f : (Nat → Int) → Option Int} {ord : Bool} {mo ma : Nat → Int} {Z : (Nat → Int) → Prop}
theorem sgC.lt (h : sgC st nw i j d f) (hd : d ≤ 64) : i < j := by
  rcases Nat.lt_or_ge i j with q | q
  · exact q
  · exfalso
    have e : j = i := Nat.le_antisymm q h.1
    have h2 := h.2 (fun _ => 112) (fun p p1 p2 => by omega) (fun _ => 0) (i + 1) [] (by omega) (by show 0 + d ≤ 64; omega)
    rw [e] at h2
    have e1 : ∀ s : List Int, s.length < 64 → RC (fun _ => (112 : Int)) nw (fun _ => 0) (i + 1) i s = RC (fun _ => (112 : Int)) nw (fun _ => 0) (i + 1) (i + 1) (7 :: s) := fun s hs => RC_num (by omega) (by decide) hs
    rw [e1 [] (by decide)] at h2
    have e2 : RC (fun _ => (112 : Int)) nw (fun _ => 0) (i + 1) (i + 1) [7] = some 7 := by
      show rC (fun _ => (112 : Int)) nw (fun _ => 0) (i + 1) (i + 1 + 1) (i + 1) [7] = some 7
      unfold rC
      rw [if_pos (Nat.le_refl _)]
    rw [e2] at h2
    cases hf : f (fun _ => 0) with
    | none => rw [hf] at h2; cases h2
    | some v =>
      rw [hf] at h2
      dsimp only at h2
      rw [e1 [v] (show 1 < 64 by decide)] at h2
      have e3 : RC (fun _ => (112 : Int)) nw (fun _ => 0) (i + 1) (i + 1) [7, v] = none := by
        show rC (fun _ => (112 : Int)) nw (fun _ => 0) (i + 1) (i + 1 + 1) (i + 1) [7, v] = none
        unfold rC
        rw [if_pos (Nat.le_refl _)]
      rw [e3] at h2
      cases h2
theorem sgM.lt (h : sgM ord mo ma (fun _ => True) i j d f) (hd : d ≤ 400) : i < j := by
  rcases Nat.lt_or_ge i j with q | q
  · exact q
  · exfalso
    have e : j = i := Nat.le_antisymm q h.1
    have h2 := h.2 mo ma (fun p p1 p2 => ⟨rfl, rfl⟩) (fun _ => 0) i [] trivial (by omega) (by show 0 + d ≤ 400; omega)
    rw [e] at h2
    have e1 : RM ord mo ma (fun _ => 0) i i [] = none := by
      show rM ord mo ma (fun _ => 0) i (i + 1) i [] = none
      unfold rM
      rw [if_pos (Nat.le_refl _)]
    rw [e1] at h2
    cases hf : f (fun _ => 0) with
    | none => rw [hf] at h2; cases h2
    | some v =>
      rw [hf] at h2
      have e3 : RM ord mo ma (fun _ => 0) i i [v] = some (some v) := by
        show rM ord mo ma (fun _ => 0) i (i + 1) i [v] = some (some v)
        unfold rM
        rw [if_pos (Nat.le_refl _)]
      dsimp only at h2
      rw [e3] at h2
      cases h2
end
/-- the class between clauses -/
def CB (M : zH) (B : Nat) (ord : Bool) (tb : Nat → Int) (l cl s : Nat) (st : Nat → Int) (len pt : Nat) : Prop := LC M B tb l s ∧ CX M B st len pt ∧ mI M (B + 69) 2 = bI ord ∧ mI M (B + 70) 6 = iI (cl : Int) ∧ cl ≤ 12
/-- what reading clause cl changes -/
def ctX (B cl : Nat) : Nat → Nat → Prop := fun b j => (b = B + 67 ∧ 2 ≤ j ∧ j ≤ 5) ∨ (b = B + 69 ∧ j = 3) ∨ (b = B + 70 ∧ (j = 5 ∨ j = 6)) ∨ b = B + 71 ∨ ((b = B + 72 ∨ b = B + 73 ∨ b = B + 74) ∧ j = cl) ∨ (b = B + 75 ∧ 4 * cl ≤ j ∧ j < 4 * cl + 4)
/-- kind, times, marks of clause cl -/
def KT (M : zH) (B cl : Nat) (kd tm : Int) (mk : Nat → Nat) : Prop := mI M (B + 72) cl = iI kd ∧ mI M (B + 73) cl = iI tm ∧ ∀ i, i < 4 → mI M (B + 75) (4 * cl + i) = iI (mk i : Int)
section
variable {n : Nat} {E : zE} {S : zS} {M M' : zH} {B : Nat} {ord : Bool} {tb : Nat → Int} {l cl s : Nat} {st : Nat → Int} {len pt wm : Nat} {kd tm : Int} {mk : Nat → Nat}
theorem clX_ct (h : zAg (clX B cl) M M') : zAg (ctX B cl) M M' := h.mono (fun b j q => by unfold clX at q; unfold ctX; omega)
theorem KT.ag (h : KT M B cl kd tm mk) (hA : zAg (clX B cl) M M') : KT M' B cl kd tm mk := ⟨by rw [(hA _ _ (by unfold clX; omega)).1]; exact h.1, by rw [(hA _ _ (by unfold clX; omega)).1]; exact h.2.1, fun i hi => by rw [(hA _ _ (by unfold clX; omega)).1]; exact h.2.2 i hi⟩
theorem s_mark (hS : ShOK S B) (hn : 1000 ≤ n) {p : Nat} (hp : p ≤ 3) (h6 : mI M (B + 70) 6 = iI (cl : Int)) (hc : cl < 12) (h5 : mI M (B + 70) 5 = iI (len : Int)) : ∃ M', F_Te_mark n E S (B + 70) (iI (p : Int)) M = some M' ∧ (∀ i, p ≤ i → i < 4 → mI M' (B + 75) (4 * cl + i) = iI (len : Int)) ∧ zAg (fun b j => b = B + 75 ∧ 4 * cl + p ≤ j ∧ j < 4 * cl + 4) M M' := by
  have key : ∀ (r p fuel : Nat) (M : zH), p + r = 4 → r < fuel → mI M (B + 70) 6 = iI (cl : Int) → mI M (B + 70) 5 = iI (len : Int) → ∃ M', zfix (fun r15 s => F_Te_mark_L15 n E S r15 s.1 s.2.1 s.2.2) fuel (B + 70, iI (p : Int), M) = some M' ∧ (∀ i, p ≤ i → i < 4 → mI M' (B + 75) (4 * cl + i) = iI (len : Int)) ∧ zAg (fun b j => b = B + 75 ∧ 4 * cl + p ≤ j ∧ j < 4 * cl + 4) M M' := by
    intro r
    induction r with
    | zero =>
      intro p fuel M hr hf h6 h5
      obtain ⟨fuel, rfl⟩ : ∃ f', fuel = f' + 1 := ⟨fuel - 1, by omega⟩
      refine ⟨M, ?_, fun i i1 i2 => by omega, zAg.rfl'⟩
      show F_Te_mark_L15 n E S _ (B + 70) (iI (p : Int)) M = _
      unfold F_Te_mark_L15
      rw [show (4 : Int32) = iI 4 by decide, if_pos (cleT (by omega) (by omega) (by omega))]
    | succ r ih =>
      intro p fuel M hr hf h6 h5
      obtain ⟨fuel, rfl⟩ : ∃ f', fuel = f' + 1 := ⟨fuel - 1, by omega⟩
      obtain ⟨M', e, g1, g2⟩ := ih (p + 1) fuel (setI M (B + 75) (4 * cl + p) (iI (len : Int))) (by omega) (by omega) (by rw [mI_a (by omega)]; exact h6) (by rw [mI_a (by omega)]; exact h5)
      refine ⟨M', ?_, fun i i1 i2 => ?_, fun b j q => ?_⟩
      · show F_Te_mark_L15 n E S (zfix (fun r15 s => F_Te_mark_L15 n E S r15 s.1 s.2.1 s.2.2) fuel) (B + 70) (iI (p : Int)) M = _
        generalize zfix (fun r15 s => F_Te_mark_L15 n E S r15 s.1 s.2.1 s.2.2) fuel = rec at e ⊢
        unfold F_Te_mark_L15
        rw [show (4 : Int32) = iI 4 by decide, if_neg (cleF (by omega) (by omega) (by omega)), hS.g70_4, obs, hS.i70, obs, hS.i70, obs, h6, h5, iI_mul, iI_add, hS.w75 (by omega) (by omega), obs, iL1, iI_add, show ((cl : Int) * 4 + (p : Int)).toNat = 4 * cl + p by omega]
        exact e
      · by_cases c : i = p
        · rw [c, (g2 _ _ (by omega)).1, mI_s]
        · exact g1 i (by omega) i2
      · obtain ⟨a1, a2, a3⟩ := g2 b j (fun z => q (by omega))
        have hA : zAg (fun b j => b = B + 75 ∧ j = 4 * cl + p) M (setI M (B + 75) (4 * cl + p) (iI (len : Int))) := zAg.rfl'.setI ⟨rfl, rfl⟩
        obtain ⟨b1, b2, b3⟩ := hA b j (fun z => q (by omega))
        exact ⟨a1.trans b1, a2.trans b2, a3.trans b3⟩
  obtain ⟨M', e, g1, g2⟩ := key (4 - p) p n M (by omega) (by omega) h6 h5
  refine ⟨M', ?_, g1, g2⟩
  unfold F_Te_mark F_Te_mark_b15
  rw [hS.i70, obs, h6, show (12 : Int32) = iI 12 by decide, if_neg (cleF (by omega) (by omega) (by omega)), iL0, s_max, obs, if_neg (cltF (by omega) (by omega) (by omega))]
  exact e
theorem s_open (hS : ShOK S B) (hn : 1000 ≤ n) (h : CB M B ord tb l cl s st len pt) (hc : cl < 12) : ∃ M', F_Te_openClause n E S (B + 70) (iI kd) M = some M' ∧ CS M' B ord tb l cl s st len pt 0 ∧ KT M' B cl kd 1 (fun _ => len) ∧ zAg (ctX B cl) M M' := by
  obtain ⟨h1, h2, h3, h4, h5⟩ := h
  have hA1 : zAg (fun b j => (b = B + 72 ∨ b = B + 73 ∨ b = B + 74) ∧ j = cl) M (setI (setI (setI M (B + 72) cl (iI kd)) (B + 73) cl (iI 1)) (B + 74) cl (iI 0)) := ((zAg.rfl'.setI ⟨by omega, rfl⟩).setI ⟨by omega, rfl⟩).setI ⟨by omega, rfl⟩
  obtain ⟨M', e, g1, g2⟩ := s_mark (n := n) (E := E) (M := setI (setI (setI M (B + 72) cl (iI kd)) (B + 73) cl (iI 1)) (B + 74) cl (iI 0)) hS hn (p := 0) (by omega) (by rw [(hA1 _ _ (by omega)).1]; exact h4) hc (by rw [(hA1 _ _ (by omega)).1]; exact h2.1.1)
  have hA2 : zAg (ctX B cl) M M' := (hA1.mono (fun b j q => by unfold ctX; omega)).trans (g2.mono (fun b j q => by unfold ctX; omega))
  have hA3 : zAg (fun b j => b = B + 72 ∨ b = B + 73 ∨ b = B + 74 ∨ b = B + 75) M M' := (hA1.mono (fun b j q => by omega)).trans (g2.mono (fun b j q => by omega))
  refine ⟨M', ?_, ⟨h1.ag hA3 (fun j => by omega) (fun j => by omega), h2.ag hA3 (by omega) (fun j => by omega), by rw [(hA3 _ _ (by omega)).1]; exact h3, ⟨by rw [(hA3 _ _ (by omega)).1]; exact h4, hc⟩, ?_, by decide⟩, ⟨?_, ?_, fun i hi => g1 i (by omega) hi⟩, hA2⟩
  · have e' : F_Te_mark n E S (B + 70) (iI 0) (setI (setI (setI M (B + 72) cl (iI kd)) (B + 73) cl (iI 1)) (B + 74) cl (iI 0)) = some M' := e
    unfold F_Te_openClause
    rw [hS.i70 (M := M), obs, h4, show (12 : Int32) = iI 12 by decide, if_neg (cleF (by omega) (by omega) (by omega)), hS.g70_1, obs, obs, hS.w72 (by omega) (by omega), obs, Int.toNat_natCast, hS.g70_2, obs, hS.i70, obs, mI_a (by omega), h4, iL1, hS.w73 (by omega) (by omega), obs, Int.toNat_natCast, hS.g70_3, obs, hS.i70, obs, mI_a (by omega), mI_a (by omega), h4, iL0, hS.w74 (by omega) (by omega), obs, Int.toNat_natCast, e', obs]
  · rw [(g2 _ _ (by omega)).1, mI_s]; rfl
  · rw [(g2 _ _ (by omega)).1, mI_a (by omega), mI_a (by omega), mI_s]
  · rw [(g2 _ _ (by omega)).1, mI_a (by omega), mI_s]
/-- marks from p on -/
theorem CS.mark (hS : ShOK S B) (hn : 1000 ≤ n) (h : CS M B ord tb l cl s st len pt wm) (hk : KT M B cl kd tm mk) {p : Nat} (hp : p ≤ 3) : ∃ M', F_Te_mark n E S (B + 70) (iI (p : Int)) M = some M' ∧ CS M' B ord tb l cl s st len pt wm ∧ KT M' B cl kd tm (fun i => if i < p then mk i else len) ∧ zAg (ctX B cl) M M' := by
  obtain ⟨h1, h2, h3, ⟨h4, h5⟩, h6, h7⟩ := h
  obtain ⟨M', e, g1, g2⟩ := s_mark (n := n) (E := E) hS hn hp h4 h5 h2.1.1
  refine ⟨M', e, ⟨h1.ag g2 (fun j => by omega) (fun j => by omega), h2.ag g2 (by omega) (fun j => by omega), by rw [(g2 _ _ (by omega)).1]; exact h3, ⟨by rw [(g2 _ _ (by omega)).1]; exact h4, h5⟩, by rw [(g2 _ _ (by omega)).1]; exact h6, h7⟩, ⟨by rw [(g2 _ _ (by omega)).1]; exact hk.1, by rw [(g2 _ _ (by omega)).1]; exact hk.2.1, fun i hi => ?_⟩, g2.mono (fun b j q => by unfold ctX; omega)⟩
  dsimp only
  by_cases c : i < p
  · rw [if_pos c, (g2 _ _ (by omega)).1]; exact hk.2.2 i hi
  · rw [if_neg c]; exact g1 i (by omega) hi
theorem CS.close (hS : ShOK S B) (hn : 1000 ≤ n) (h : CS M B ord tb l cl s st len pt wm) (hk : KT M B cl kd tm mk) : ∃ M', F_Te_closeClause n E S (B + 70) M = some M' ∧ CB M' B ord tb l (cl + 1) s st len pt ∧ KT M' B cl kd tm (fun i => if i < 3 then mk i else len) ∧ mI M' (B + 74) cl = iI (wm : Int) ∧ zAg (ctX B cl) M M' := by
  obtain ⟨M1, e1, g1, k1, hA1⟩ := h.mark (n := n) (E := E) hS hn hk (p := 3) (by omega)
  have hA2 : zAg (fun b j => b = B + 70 ∧ j = 6) M1 (setI M1 (B + 70) 6 (iI ((cl : Int) + 1))) := zAg.rfl'.setI ⟨rfl, rfl⟩
  obtain ⟨h1, h2, h3, ⟨h4, h5⟩, h6, h7⟩ := g1
  refine ⟨setI M1 (B + 70) 6 (iI ((cl : Int) + 1)), ?_, ⟨h1.ag hA2 (fun j => by omega) (fun j => by omega), h2.ag hA2 (by omega) (fun j => by omega), by rw [(hA2 _ _ (by omega)).1]; exact h3, mI_s, by omega⟩, ⟨by rw [(hA2 _ _ (by omega)).1]; exact k1.1, by rw [(hA2 _ _ (by omega)).1]; exact k1.2.1, fun i hi => by rw [(hA2 _ _ (by omega)).1]; exact k1.2.2 i hi⟩, by rw [(hA2 _ _ (by omega)).1]; exact h6, hA1.trans (hA2.mono (fun b j q => by unfold ctX; omega))⟩
  unfold F_Te_closeClause
  rw [hS.ck70, obs, show (3 : Int32) = iI ((3 : Nat) : Int) by decide, e1, obs, hS.i70, obs, h4, iL1, iI_add, hS.p70, obs]
theorem CS.times (hS : ShOK S B) (h : CS M B ord tb l cl s st len pt wm) (hk : KT M B cl kd tm mk) {v : Int} : ∃ M', F_Te_setTimes n E S (B + 70) (iI v) M = some M' ∧ CS M' B ord tb l cl s st len pt wm ∧ KT M' B cl kd v mk ∧ zAg (ctX B cl) M M' := by
  obtain ⟨h1, h2, h3, ⟨h4, h5⟩, h6, h7⟩ := h
  have hA2 : zAg (fun b j => b = B + 73 ∧ j = cl) M (setI M (B + 73) cl (iI v)) := zAg.rfl'.setI ⟨rfl, rfl⟩
  refine ⟨setI M (B + 73) cl (iI v), ?_, ⟨h1.ag hA2 (fun j => by omega) (fun j => by omega), h2.ag hA2 (by omega) (fun j => by omega), by rw [(hA2 _ _ (by omega)).1]; exact h3, ⟨by rw [(hA2 _ _ (by omega)).1]; exact h4, h5⟩, by rw [(hA2 _ _ (by omega)).1]; exact h6, h7⟩, ⟨by rw [(hA2 _ _ (by omega)).1]; exact hk.1, mI_s, fun i hi => by rw [(hA2 _ _ (by omega)).1]; exact hk.2.2 i hi⟩, hA2.mono (fun b j q => by unfold ctX; omega)⟩
  unfold F_Te_setTimes
  rw [hS.i70 (M := M), obs, h4, show (12 : Int32) = iI 12 by decide, if_neg (cleF (by omega) (by omega) (by omega)), hS.g70_2, obs, obs, hS.w73 (by omega) (by omega), obs, Int.toNat_natCast]
end
