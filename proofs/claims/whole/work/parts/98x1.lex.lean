/-! law and orders: the reading of tokens -/
theorem nbT {b : Bool} (h : b = false) : ¬ b = true := fun z => Bool.noConfusion (h.symm.trans z)
def isL (c : Int) : Bool := decide (97 ≤ c ∧ c ≤ 122)
def isD (c : Int) : Bool := decide (48 ≤ c ∧ c ≤ 57)
def isB (c : Int) : Bool := decide (c = 32)
def scF (c : Int → Bool) (tb : Nat → Int) (l : Nat) : Nat → Nat → Nat
  | 0, p => p
  | k + 1, p => if p < l ∧ c (tb p) = true then scF c tb l k (p + 1) else p
/-- behind all from p on that are c -/
def sE (c : Int → Bool) (tb : Nat → Int) (l p : Nat) : Nat := scF c tb l (l - p) p
theorem scF_ok {c : Int → Bool} {tb : Nat → Int} {l : Nat} : ∀ k p : Nat, p + k = l → p ≤ scF c tb l k p ∧ scF c tb l k p ≤ l ∧ (∀ q, p ≤ q → q < scF c tb l k p → c (tb q) = true) ∧ (scF c tb l k p < l → c (tb (scF c tb l k p)) = false) := by
  intro k
  induction k with
  | zero => intro p h; exact ⟨Nat.le_refl _, by show p ≤ l; omega, fun q h1 h2 => by have : q < p := h2; omega, fun h2 => by have : p < l := h2; omega⟩
  | succ k ih =>
    intro p h
    have e : scF c tb l (k + 1) p = if p < l ∧ c (tb p) = true then scF c tb l k (p + 1) else p := rfl
    rw [e]
    by_cases q : p < l ∧ c (tb p) = true
    · rw [if_pos q]
      obtain ⟨h1, h2, h3, h4⟩ := ih (p + 1) (by omega)
      refine ⟨by omega, h2, fun r r1 r2 => ?_, h4⟩
      by_cases z : r = p
      · rw [z]; exact q.2
      · exact h3 r (by omega) r2
    · rw [if_neg q]
      refine ⟨Nat.le_refl _, by omega, fun r r1 r2 => by omega, fun r => ?_⟩
      cases hc : c (tb p)
      · rfl
      · exact absurd ⟨r, hc⟩ q
section
variable {c : Int → Bool} {tb : Nat → Int} {l p : Nat}
theorem sE_ok (h : p ≤ l) : p ≤ sE c tb l p ∧ sE c tb l p ≤ l ∧ (∀ q, p ≤ q → q < sE c tb l p → c (tb q) = true) ∧ (sE c tb l p < l → c (tb (sE c tb l p)) = false) := scF_ok (l - p) p (by omega)
end
def kdT (tb : Nat → Int) (l s : Nat) : Nat := if l ≤ s then 0 else if isL (tb s) = true then 1 else if isD (tb s) = true then 2 else 3
def tE (tb : Nat → Int) (l s : Nat) : Nat := if kdT tb l s = 0 then s else if kdT tb l s = 1 then sE isL tb l s else if kdT tb l s = 2 then sE isD tb l s else s + 1
def sT (tb : Nat → Int) (l p : Nat) : Nat := sE isB tb l p
def vD (tb : Nat → Int) (s : Nat) : Nat → Int
  | 0 => 0
  | i + 1 => if vD tb s i * 10 + tb (s + i) - 48 ≤ 10000 then vD tb s i * 10 + tb (s + i) - 48 else 10000
def vT (tb : Nat → Int) (l s : Nat) : Int := if kdT tb l s = 2 then vD tb s (tE tb l s - s) else 0
def hW (tb : Nat → Int) (s : Nat) : Nat → Int
  | 0 => 0
  | i + 1 => if i < 10 then hW tb s i * 32 + tb (s + i) - 96 else -1
def nD (tb : Nat → Int) (s : Nat) : Nat → Int
  | 0 => 0
  | i + 1 => if nD tb s i ≤ 1000000 then nD tb s i * 10 + tb (s + i) - 48 else nD tb s i
def wT (tb : Nat → Int) (l s : Nat) : Int := if kdT tb l s = 0 then 0 else if kdT tb l s = 1 then hW tb s (tE tb l s - s) else if kdT tb l s = 2 then nD tb s (tE tb l s - s) else tb s
theorem kdT_cases {tb : Nat → Int} {l s : Nat} (h : s < l) : (isL (tb s) = true ∧ kdT tb l s = 1) ∨ (isL (tb s) = false ∧ isD (tb s) = true ∧ kdT tb l s = 2) ∨ (isL (tb s) = false ∧ isD (tb s) = false ∧ kdT tb l s = 3) := by
  unfold kdT
  rw [if_neg (by omega)]
  cases h1 : isL (tb s)
  · rw [if_neg (by decide)]
    cases h2 : isD (tb s)
    · exact Or.inr (Or.inr ⟨rfl, rfl, if_neg (by decide)⟩)
    · exact Or.inr (Or.inl ⟨rfl, rfl, if_pos rfl⟩)
  · exact Or.inl ⟨rfl, if_pos rfl⟩
def TC (M : zH) (B : Nat) (tb : Nat → Int) (l : Nat) : Prop := l ≤ 400 ∧ mI M (B + 67) 1 = iI (l : Int) ∧ ∀ k, k < l → 0 ≤ tb k ∧ tb k < 256 ∧ mI M (B + 68) k = iI (sgb (tb k))
/-- the class stands at the token that begins at s -/
def LC (M : zH) (B : Nat) (tb : Nat → Int) (l s : Nat) : Prop := TC M B tb l ∧ s ≤ l ∧ mI M (B + 67) 2 = iI (kdT tb l s : Int) ∧ mI M (B + 67) 3 = iI (s : Int) ∧ mI M (B + 67) 4 = iI (tE tb l s : Int) ∧ mI M (B + 67) 5 = iI (vT tb l s)
section
variable {n : Nat} {E : zE} {S : zS} {M M' : zH} {B : Nat} {tb : Nat → Int} {l : Nat}
theorem TC.ag {X : Nat → Nat → Prop} (h : TC M B tb l) (hA : zAg X M M') (h1 : ¬ X (B + 67) 1) (h2 : ∀ j, ¬ X (B + 68) j) : TC M' B tb l := ⟨h.1, by rw [(hA _ _ h1).1]; exact h.2.1, fun k hk => by rw [(hA _ _ (h2 k)).1]; exact h.2.2 k hk⟩
theorem LC.ag {X : Nat → Nat → Prop} {s : Nat} (h : LC M B tb l s) (hA : zAg X M M') (h1 : ∀ j, ¬ X (B + 67) j) (h2 : ∀ j, ¬ X (B + 68) j) : LC M' B tb l s := ⟨h.1.ag hA (h1 _) h2, h.2.1, by rw [(hA _ _ (h1 2)).1]; exact h.2.2.1, by rw [(hA _ _ (h1 3)).1]; exact h.2.2.2.1, by rw [(hA _ _ (h1 4)).1]; exact h.2.2.2.2.1, by rw [(hA _ _ (h1 5)).1]; exact h.2.2.2.2.2⟩
theorem s_byT (hS : ShOK S B) (h : TC M B tb l) {k : Nat} (hk : k < l) : F_Ta_byteAt n E S (B + 67) (iI (k : Int)) M = some (iI (tb k), M) := s_byteAt hS h.1 h.2.1 h.2.2 hk
theorem s_isLet {x : Int} (hx : zR x) : F_Ta_isLetter n E S (iI x) M = some (isL x, M) := by
  have h1 := hx.1
  have h2 := hx.2
  unfold F_Ta_isLetter isL
  rw [show (97 : Int32) = iI 97 by decide, show (122 : Int32) = iI 122 by decide]
  by_cases c1 : x < 97
  · rw [if_pos (cltT (by omega) (by omega) (by omega)), decide_eq_false (fun q => by omega)]
  · rw [if_neg (cltF (by omega) (by omega) (by omega))]
    by_cases c2 : 122 < x
    · rw [if_pos (cltT (by omega) (by omega) (by omega)), decide_eq_false (fun q => by omega)]
    · rw [if_neg (cltF (by omega) (by omega) (by omega)), decide_eq_true (by omega)]
theorem s_isDig {x : Int} (hx : zR x) : F_Ta_isDigit n E S (iI x) M = some (isD x, M) := by
  have h1 := hx.1
  have h2 := hx.2
  unfold F_Ta_isDigit isD
  rw [show (48 : Int32) = iI 48 by decide, show (57 : Int32) = iI 57 by decide]
  by_cases c1 : x < 48
  · rw [if_pos (cltT (by omega) (by omega) (by omega)), decide_eq_false (fun q => by omega)]
  · rw [if_neg (cltF (by omega) (by omega) (by omega))]
    by_cases c2 : 57 < x
    · rw [if_pos (cltT (by omega) (by omega) (by omega)), decide_eq_false (fun q => by omega)]
    · rw [if_neg (cltF (by omega) (by omega) (by omega)), decide_eq_true (by omega)]
def tpX (B : Nat) : Nat → Nat → Prop := fun b j => b = B + 67 ∧ 2 ≤ j ∧ j ≤ 5
theorem vD_b {s : Nat} : ∀ i, (∀ q, s ≤ q → q < s + i → isD (tb q) = true) → 0 ≤ vD tb s i ∧ vD tb s i ≤ 10000 := by
  intro i
  induction i with
  | zero => intro _; exact ⟨Int.le_refl 0, show (0 : Int) ≤ 10000 by decide⟩
  | succ i ih =>
    intro h
    have h1 := ih (fun q q1 q2 => h q q1 (by omega))
    have h2 := of_decide_eq_true (h (s + i) (by omega) (by omega))
    show 0 ≤ (if vD tb s i * 10 + tb (s + i) - 48 ≤ 10000 then vD tb s i * 10 + tb (s + i) - 48 else 10000) ∧ (if vD tb s i * 10 + tb (s + i) - 48 ≤ 10000 then vD tb s i * 10 + tb (s + i) - 48 else 10000) ≤ 10000
    split <;> omega
/-- the class's advance -/
theorem c_adv (hS : ShOK S B) (hn : 1000 ≤ n) (hT : TC M B tb l) {p : Nat} (hp : p ≤ l) (h4 : mI M (B + 67) 4 = iI (p : Int)) : ∃ M', F_Ta_advance n E S (B + 67) M = some M' ∧ LC M' B tb l (sT tb l p) ∧ zAg (tpX B) M M' := by
  obtain ⟨a1, a2, a3, a4⟩ := sE_ok (c := isB) (tb := tb) hp
  have hl := hT.1
  unfold F_Ta_advance F_Ta_advance_b8
  rw [hS.i67, obs, h4, hS.p67, obs]
  obtain ⟨s1, w1, ⟨M1, hs1, h1, hA1⟩, e1⟩ := zfix_inv (F := fun r8 s => F_Ta_advance_L8 n E S r8 s.1 s.2) (fun i s => ∃ M1, s = (B + 67, M1) ∧ mI M1 (B + 67) 3 = iI ((p + i : Nat) : Int) ∧ zAg (tpX B) M M1) (sE isB tb l p - p) (fun i hi s hI' => by
    obtain ⟨M1, rfl, h1, hA1⟩ := hI'
    have hT1 := hT.ag hA1 (by unfold tpX; omega) (fun j => by unfold tpX; omega)
    have hb := of_decide_eq_true (a3 (p + i) (by omega) (by omega))
    refine ⟨(B + 67, setI M1 (B + 67) 3 (iI (((p + i : Nat) : Int) + 1))), ⟨_, rfl, mI_s, hA1.setI (by unfold tpX; omega)⟩, fun rec => ?_⟩
    show F_Ta_advance_L8 n E S rec (B + 67) M1 = _
    unfold F_Ta_advance_L8
    rw [hS.i67, obs, hS.i67, obs, h1, hT1.2.1, if_neg (cleF (by omega) (by omega) (by omega)), obs, s_byT hS hT1 (by omega), obs, hb, show (32 : Int32) = iI 32 by decide, if_pos rfl, hS.i67 (M := M1), obs, h1, iL1, iI_add, hS.p67 (M := M1), obs]) n 0 (B + 67, setI M (B + 67) 3 (iI (p : Int))) (by omega) (by omega) ⟨_, rfl, mI_s, zAg.rfl'.setI (by unfold tpX; omega)⟩
  have hT1 := hT.ag hA1 (by unfold tpX; omega) (fun j => by unfold tpX; omega)
  rw [show p + (sE isB tb l p - p) = sE isB tb l p by omega] at h1
  have es : sT tb l p = sE isB tb l p := rfl
  rw [← es] at a1 a2 a4 h1
  generalize hs : sT tb l p = s at a1 a2 a4 h1
  have to45 : F_Ta_advance_L8 n E S (zfix (fun r8 s => F_Ta_advance_L8 n E S r8 s.1 s.2) w1) (B + 67) M1 = F_Ta_advance_b45 n E S (B + 67) M1 := by
    unfold F_Ta_advance_L8
    rw [hS.i67, obs, hS.i67, obs, h1, hT1.2.1]
    by_cases c : l ≤ s
    · rw [if_pos (cleT (by omega) (by omega) (by omega))]
    · have := hT1.2.2 s (by omega)
      rw [if_neg (cleF (by omega) (by omega) (by omega)), obs, s_byT hS hT1 (by omega), obs, show (32 : Int32) = iI 32 by decide, if_neg (ceqF (of_decide_eq_false (a4 (by omega))) (by omega) (by omega) (by omega) (by omega))]
  have e1' : zfix (fun r8 s => F_Ta_advance_L8 n E S r8 s.1 s.2) n (B + 67, setI M (B + 67) 3 (iI (p : Int))) = F_Ta_advance_b45 n E S (B + 67) M1 := by
    refine e1.trans ?_
    rw [hs1]
    exact to45
  rw [e1']
  have hA2 : zAg (tpX B) M (setI (setI M1 (B + 67) 4 (iI (s : Int))) (B + 67) 5 (iI 0)) := (hA1.setI (by unfold tpX; omega)).setI (by unfold tpX; omega)
  have g3 : mI (setI (setI M1 (B + 67) 4 (iI (s : Int))) (B + 67) 5 (iI 0)) (B + 67) 3 = iI (s : Int) := by rw [mI_i (by decide), mI_i (by decide)]; exact h1
  have g4 : mI (setI (setI M1 (B + 67) 4 (iI (s : Int))) (B + 67) 5 (iI 0)) (B + 67) 4 = iI (s : Int) := by rw [mI_i (by decide), mI_s]
  have g5 : mI (setI (setI M1 (B + 67) 4 (iI (s : Int))) (B + 67) 5 (iI 0)) (B + 67) 5 = iI 0 := mI_s
  unfold F_Ta_advance_b45
  rw [hS.i67, obs, h1, hS.p67, obs, iL0, hS.p67, obs]
  generalize setI (setI M1 (B + 67) 4 (iI (s : Int))) (B + 67) 5 (iI 0) = M2 at hA2 g3 g4 g5
  have hT2 := hT.ag hA2 (by unfold tpX; omega) (fun j => by unfold tpX; omega)
  rw [hS.i67, obs, hS.i67, obs, g3, hT2.2.1]
  by_cases c : s < l
  · obtain ⟨b1, b2, b3⟩ := hT.2.2 s c
    rw [if_pos (cltT (by omega) (by omega) (by omega)), obs, s_byT hS hT2 c, obs, s_isLet (zR_of (by omega) (by omega)), obs]
    rcases kdT_cases (tb := tb) c with ⟨k1, k2⟩ | ⟨k1, k2, k3⟩ | ⟨k1, k2, k3⟩
    · obtain ⟨d1, d2, d3, d4⟩ := sE_ok (c := isL) (tb := tb) (l := l) (p := s) (by omega)
      have ee : tE tb l s = sE isL tb l s := by unfold tE; rw [if_neg (by omega), if_pos k2]
      rw [if_pos k1, iL1, hS.p67 (M := M2), obs]
      unfold F_Ta_advance_b96
      obtain ⟨s3, w3, ⟨M3, hs3, h3, hA3⟩, e3⟩ := zfix_inv (F := fun r96 s => F_Ta_advance_L96 n E S r96 s.1 s.2) (fun i st => ∃ M3, st = (B + 67, M3) ∧ mI M3 (B + 67) 4 = iI ((s + i : Nat) : Int) ∧ zAg (fun b j => b = B + 67 ∧ j = 4) (setI M2 (B + 67) 2 (iI 1)) M3) (sE isL tb l s - s) (fun i hi st hI' => by
        obtain ⟨M3, rfl, h3, hA3⟩ := hI'
        have hT3 : TC M3 B tb l := (hT2.ag (X := tpX B) (zAg.rfl'.setI (by unfold tpX; omega)) (by unfold tpX; omega) (fun j => by unfold tpX; omega)).ag hA3 (by omega) (fun j => by omega)
        have hb := d3 (s + i) (by omega) (by omega)
        have hx := hT.2.2 (s + i) (by omega)
        refine ⟨(B + 67, setI M3 (B + 67) 4 (iI (((s + i : Nat) : Int) + 1))), ⟨_, rfl, mI_s, hA3.setI ⟨rfl, rfl⟩⟩, fun rec => ?_⟩
        show F_Ta_advance_L96 n E S rec (B + 67) M3 = _
        unfold F_Ta_advance_L96
        rw [hS.i67, obs, hS.i67, obs, h3, hT3.2.1, if_neg (cleF (by omega) (by omega) (by omega)), obs, s_byT hS hT3 (by omega), obs, s_isLet (zR_of (by omega) (by omega)), obs, if_pos hb, hS.i67 (M := M3), obs, h3, iL1, iI_add, hS.p67 (M := M3), obs]) n 0 (B + 67, setI M2 (B + 67) 2 (iI 1)) (by omega) (by omega) ⟨_, rfl, by rw [mI_i (by decide)]; exact g4, zAg.rfl'⟩
      have hT3 : TC M3 B tb l := (hT2.ag (X := tpX B) (zAg.rfl'.setI (by unfold tpX; omega)) (by unfold tpX; omega) (fun j => by unfold tpX; omega)).ag hA3 (by omega) (fun j => by omega)
      rw [show s + (sE isL tb l s - s) = sE isL tb l s by omega] at h3
      refine ⟨M3, ?_, ⟨hT3, by omega, ?_, ?_, by rw [h3, ee], ?_⟩, (hA2.setI (by unfold tpX; omega)).trans (hA3.mono (fun b j q => by unfold tpX; omega))⟩
      · refine e3.trans ?_
        rw [hs3]
        show F_Ta_advance_L96 n E S _ (B + 67) M3 = _
        unfold F_Ta_advance_L96
        rw [hS.i67, obs, hS.i67, obs, h3, hT3.2.1]
        by_cases z : l ≤ sE isL tb l s
        · rw [if_pos (cleT (by omega) (by omega) (by omega))]
        · have hx := hT.2.2 (sE isL tb l s) (by omega)
          rw [if_neg (cleF (by omega) (by omega) (by omega)), obs, s_byT hS hT3 (by omega), obs, s_isLet (zR_of (by omega) (by omega)), obs, if_neg (nbT (d4 (by omega)))]
      · rw [(hA3 _ _ (by omega)).1, mI_s, k2]; rfl
      · rw [(hA3 _ _ (by omega)).1, mI_i (by decide)]; exact g3
      · rw [(hA3 _ _ (by omega)).1, mI_i (by decide), g5]; unfold vT; rw [if_neg (by omega)]
    · obtain ⟨d1, d2, d3, d4⟩ := sE_ok (c := isD) (tb := tb) (l := l) (p := s) (by omega)
      have ee : tE tb l s = sE isD tb l s := by unfold tE; rw [if_neg (by omega), if_neg (by omega), if_pos k3]
      rw [if_neg (nbT k1), hS.i67 (M := M2), obs, g3, s_byT hS hT2 c, obs, s_isDig (zR_of (by omega) (by omega)), obs, if_pos k2, show (2 : Int32) = iI 2 by decide, hS.p67 (M := M2), obs]
      unfold F_Ta_advance_b153
      have hmin : ∀ (M : zH) (a : Int), -1000 ≤ a → a ≤ 200000 → F_Jm_min n E S (iI a) 10000 M = some (iI (if a ≤ 10000 then a else 10000), M) := fun M a q1 q2 => by
        unfold F_Jm_min
        rw [show (10000 : Int32) = iI 10000 by decide]
        by_cases q : a ≤ 10000
        · rw [if_neg (cltF (by omega) (by omega) (by omega)), if_pos q]
        · rw [if_pos (cltT (by omega) (by omega) (by omega)), if_neg q]
      obtain ⟨s3, w3, ⟨M3, hs3, h3, h5, hA3⟩, e3⟩ := zfix_inv (F := fun r153 s => F_Ta_advance_L153 n E S r153 s.1 s.2) (fun i st => ∃ M3, st = (B + 67, M3) ∧ mI M3 (B + 67) 4 = iI ((s + i : Nat) : Int) ∧ mI M3 (B + 67) 5 = iI (vD tb s i) ∧ zAg (fun b j => b = B + 67 ∧ 4 ≤ j ∧ j ≤ 5) (setI M2 (B + 67) 2 (iI 2)) M3) (sE isD tb l s - s) (fun i hi st hI' => by
        obtain ⟨M3, rfl, h3, h5, hA3⟩ := hI'
        have hT3 : TC M3 B tb l := (hT2.ag (X := tpX B) (zAg.rfl'.setI (by unfold tpX; omega)) (by unfold tpX; omega) (fun j => by unfold tpX; omega)).ag hA3 (by omega) (fun j => by omega)
        have hb := d3 (s + i) (by omega) (by omega)
        have hb' := of_decide_eq_true hb
        have hx := hT.2.2 (s + i) (by omega)
        have hv := vD_b (tb := tb) (s := s) i (fun q q1 q2 => d3 q q1 (by omega))
        refine ⟨(B + 67, setI (setI M3 (B + 67) 5 (iI (vD tb s (i + 1)))) (B + 67) 4 (iI (((s + i : Nat) : Int) + 1))), ⟨_, rfl, mI_s, by rw [mI_i (by decide), mI_s], (hA3.setI ⟨rfl, by omega, by omega⟩).setI ⟨rfl, by omega, by omega⟩⟩, fun rec => ?_⟩
        show F_Ta_advance_L153 n E S rec (B + 67) M3 = _
        unfold F_Ta_advance_L153
        rw [hS.i67, obs, hS.i67, obs, h3, hT3.2.1, if_neg (cleF (by omega) (by omega) (by omega)), obs, s_byT hS hT3 (by omega), obs, s_isDig (zR_of (by omega) (by omega)), obs, if_pos hb, hS.i67 (M := M3), obs, h5, hS.i67 (M := M3), obs, h3, s_byT hS hT3 (by omega), obs, show (10 : Int32) = iI 10 by decide, show (48 : Int32) = iI 48 by decide, iI_mul, iI_add, iI_sub, hmin M3 _ (by omega) (by omega), obs, hS.p67 (M := M3), obs, hS.i67, obs, mI_i (by decide), h3, iL1, iI_add, hS.p67, obs]
        rfl) n 0 (B + 67, setI M2 (B + 67) 2 (iI 2)) (by omega) (by omega) ⟨_, rfl, by rw [mI_i (by decide)]; exact g4, by rw [mI_i (by decide)]; exact g5, zAg.rfl'⟩
      have hT3 : TC M3 B tb l := (hT2.ag (X := tpX B) (zAg.rfl'.setI (by unfold tpX; omega)) (by unfold tpX; omega) (fun j => by unfold tpX; omega)).ag hA3 (by omega) (fun j => by omega)
      rw [show s + (sE isD tb l s - s) = sE isD tb l s by omega] at h3
      refine ⟨M3, ?_, ⟨hT3, by omega, ?_, ?_, by rw [h3, ee], ?_⟩, (hA2.setI (by unfold tpX; omega)).trans (hA3.mono (fun b j q => by unfold tpX; omega))⟩
      · refine e3.trans ?_
        rw [hs3]
        show F_Ta_advance_L153 n E S _ (B + 67) M3 = _
        unfold F_Ta_advance_L153
        rw [hS.i67, obs, hS.i67, obs, h3, hT3.2.1]
        by_cases z : l ≤ sE isD tb l s
        · rw [if_pos (cleT (by omega) (by omega) (by omega))]
        · have hx := hT.2.2 (sE isD tb l s) (by omega)
          rw [if_neg (cleF (by omega) (by omega) (by omega)), obs, s_byT hS hT3 (by omega), obs, s_isDig (zR_of (by omega) (by omega)), obs, if_neg (nbT (d4 (by omega)))]
      · rw [(hA3 _ _ (by omega)).1, mI_s, k3]; rfl
      · rw [(hA3 _ _ (by omega)).1, mI_i (by decide)]; exact g3
      · rw [h5]; unfold vT; rw [if_pos k3, ee]
    · rw [if_neg (nbT k1), hS.i67 (M := M2), obs, g3, s_byT hS hT2 c, obs, s_isDig (zR_of (by omega) (by omega)), obs, if_neg (nbT k2), iL3, hS.p67 (M := M2), obs, hS.i67, obs, mI_i (by decide), g4, iL1, iI_add, hS.p67, obs]
      have hA3 : zAg (tpX B) M (setI (setI M2 (B + 67) 2 (iI 3)) (B + 67) 4 (iI ((s : Int) + 1))) := (hA2.setI (by unfold tpX; omega)).setI (by unfold tpX; omega)
      refine ⟨_, rfl, ⟨hT.ag hA3 (by unfold tpX; omega) (fun j => by unfold tpX; omega), by omega, ?_, ?_, ?_, ?_⟩, hA3⟩
      · rw [mI_i (by decide), mI_s, k3]; rfl
      · rw [mI_i (by decide), mI_i (by decide)]; exact g3
      · rw [mI_s]; unfold tE; rw [if_neg (by omega), if_neg (by omega), if_neg (by omega)]; rfl
      · rw [mI_i (by decide), mI_i (by decide), g5]; unfold vT; rw [if_neg (by omega)]
  · have k0 : kdT tb l s = 0 := by unfold kdT; rw [if_pos (by omega)]
    rw [if_neg (cltF (by omega) (by omega) (by omega)), hS.p67, obs]
    have hA3 : zAg (tpX B) M (setI M2 (B + 67) 2 (iI 0)) := hA2.setI (by unfold tpX; omega)
    refine ⟨_, rfl, ⟨hT.ag hA3 (by unfold tpX; omega) (fun j => by unfold tpX; omega), by omega, ?_, ?_, ?_, ?_⟩, hA3⟩
    · rw [mI_s, k0]; rfl
    · rw [mI_i (by decide)]; exact g3
    · rw [mI_i (by decide), g4]; unfold tE; rw [if_pos k0]
    · rw [mI_i (by decide), g5]; unfold vT; rw [if_neg (by omega)]
end
