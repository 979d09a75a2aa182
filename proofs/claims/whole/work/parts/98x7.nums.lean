/-! law and orders: signs in a list, numbers, must -/
def sgN (t : Int) (i : Nat) : Nat → Nat → Int
  | 0, _ => -1
  | r + 1, k => if lc i k = t then (k : Int) else sgN t i r (k + 1)
/-- which sign of the literal i the token is -/
def sgT (tb : Nat → Int) (l s i : Nat) : Int := if kdT tb l s = 3 then sgN (tb s) i (zLit i).length 0 else -1
theorem chr_ok : ∀ t : Fin 256, ((iI (t.val : Int)).toUInt32 % 65536).toInt32 = iI (t.val : Int) ∧ (iI (t.val : Int)).toInt8.toInt32 = iI (sgb (t.val : Int)) := by decide +kernel
section
variable {n : Nat} {E : zE} {S : zS} {M M' : zH} {B : Nat} {tb : Nat → Int} {l : Nat}
theorem kdT_3 {s : Nat} : kdT tb l s ≤ 3 := by unfold kdT; split; omega; split; omega; split <;> omega
theorem kdT_l {s : Nat} (h : kdT tb l s ≠ 0) : s < l := by
  by_cases z : s < l
  · exact z
  · exact absurd (by unfold kdT; rw [if_pos (by omega)]) h
theorem s_signIn (hS : ShOK S B) (hn : 1000 ≤ n) {s i : Nat} (hL : LC M B tb l s) (hi : i < 14) (h0 : 0 < (zLit i).length) : F_Ta_signIn n E S (B + 67) i M = some (iI (sgT tb l s i), M) := by
  have hk3 := kdT_3 (tb := tb) (l := l) (s := s)
  have hl4 := (lit_ok i hi).1
  unfold F_Ta_signIn sgT
  rw [hS.i67, obs, hL.2.2.1, iL3]
  by_cases c : kdT tb l s = 3
  · have hsl := kdT_l (tb := tb) (l := l) (s := s) (by omega)
    obtain ⟨x1, x2, x3⟩ := hL.1.2.2 s hsl
    obtain ⟨g1, g2⟩ := chr_ok ⟨(tb s).toNat, by omega⟩
    rw [show (((tb s).toNat : Nat) : Int) = tb s by omega] at g1 g2
    have key : ∀ (r k fuel : Nat), r + k = (zLit i).length → r < fuel → zfix (fun r7 s => F_Jl_indexOfChar_L7 n E S r7 s.1 s.2.1 s.2.2.1 s.2.2.2.1 s.2.2.2.2) fuel (i, iI ((zLit i).length : Int), iI (sgb (tb s)), iI (k : Int), M) = some (iI (sgN (tb s) i r k), M) := by
      intro r
      induction r with
      | zero =>
        intro k fuel hr hf
        obtain ⟨fuel, rfl⟩ : ∃ f', fuel = f' + 1 := ⟨fuel - 1, by omega⟩
        show F_Jl_indexOfChar_L7 n E S _ i (iI ((zLit i).length : Int)) (iI (sgb (tb s))) (iI (k : Int)) M = _
        unfold F_Jl_indexOfChar_L7
        rw [if_pos (cleT (by omega) (by omega) (by omega)), iL1, iI_neg]
        rfl
      | succ r ih =>
        intro k fuel hr hf
        obtain ⟨fuel, rfl⟩ : ∃ f', fuel = f' + 1 := ⟨fuel - 1, by omega⟩
        have ih' := ih (k + 1) fuel (by omega) (by omega)
        have hy := ((lit_ok i hi).2 k (by omega)).2.2
        show F_Jl_indexOfChar_L7 n E S _ i (iI ((zLit i).length : Int)) (iI (sgb (tb s))) (iI (k : Int)) M = _
        generalize zfix (fun r7 s => F_Jl_indexOfChar_L7 n E S r7 s.1 s.2.1 s.2.2.1 s.2.2.2.1 s.2.2.2.2) fuel = rec at ih' ⊢
        have hsg : -128 ≤ sgb (tb s) ∧ sgb (tb s) < 128 ∧ (lc i k = tb s ↔ lc i k = sgb (tb s)) := by
          unfold sgb
          split <;> omega
        unfold F_Jl_indexOfChar_L7
        rw [if_neg (cleF (by omega) (by omega) (by omega)), zlb_i hi (by omega), obs]
        show _ = some (iI (if lc i k = tb s then (k : Int) else sgN (tb s) i r (k + 1)), M)
        by_cases z : lc i k = tb s
        · rw [if_pos (ceqT (hsg.2.2.mp z)), if_pos z]
        · rw [if_neg (ceqF (fun q => z (hsg.2.2.mpr q)) (by omega) (by omega) (by omega) (by omega)), if_neg z, iL1, iI_add]
          exact ih'
    have e1 : F_Js_indexOf n E S i (iI (tb s)) M = some (iI (sgN (tb s) i (zLit i).length 0), M) := by
      unfold F_Js_indexOf F_Js_indexOf2 F_Js_isLatin1
      rw [zli_i hi, obs, obs, if_neg (show ¬ (1 : Int32) = 0 by decide), obs, if_pos (show (0 : Int32) = 0 from rfl), obs, if_pos rfl, obs, obs, s_lenL hi, obs]
      unfold F_Jl_indexOf F_Jl_canEncode
      rw [iL0, if_neg (cltF (by omega) (by omega) (by omega)), iL255, if_neg (cltF (by omega) (by omega) (by omega)), obs, if_pos rfl, s_max, obs, zln_i hi, obs, s_min, obs, if_neg (cltF (by omega) (by omega) (by omega)), if_neg (cltF (by omega) (by omega) (by omega))]
      unfold F_Jl_indexOfChar F_Jl_indexOfChar_b7
      rw [if_pos (cltT (by omega) (by omega) (by omega)), g2]
      have := key (zLit i).length 0 n (by omega) (by omega)
      rw [show iI 0 = iI ((0 : Nat) : Int) from rfl, this, obs, obs, obs]
    rw [if_pos (ceqT (by omega)), hS.i67, obs, hL.2.2.2.1, s_byT hS hL.1 hsl, obs, zli_i hi, obs, g1, e1, obs, if_pos c]
  · rw [if_neg (ceqF (show ¬ (kdT tb l s : Int) = 3 by omega) (by omega) (by omega) (by omega) (by omega)), if_neg c, iL1, iI_neg]
theorem vT_b {s : Nat} (hs : s ≤ l) : 0 ≤ vT tb l s ∧ vT tb l s ≤ 10000 := by
  have d2 := sE_ok (c := isD) (tb := tb) (l := l) (p := s) hs
  unfold vT
  by_cases z2 : kdT tb l s = 2
  · rw [if_pos z2]
    have ee : tE tb l s = sE isD tb l s := by unfold tE; rw [if_neg (by omega), if_neg (by omega), if_pos z2]
    exact vD_b (tb := tb) (s := s) (tE tb l s - s) (fun q q1 q2 => d2.2.2.1 q q1 (by omega))
  · rw [if_neg z2]; decide
theorem s_atNumber (hS : ShOK S B) {s : Nat} (hL : LC M B tb l s) {a b : Int} (ha : -1000 ≤ a) (ha2 : a ≤ 10000) (hb : -1000 ≤ b) (hb2 : b ≤ 10000) : F_Ta_atNumber n E S (B + 67) (iI a) (iI b) M = some (decide (kdT tb l s = 2 ∧ a ≤ vT tb l s ∧ vT tb l s ≤ b), M) := by
  have hk3 := kdT_3 (tb := tb) (l := l) (s := s)
  have hv := vT_b (tb := tb) (l := l) (s := s) hL.2.1
  unfold F_Ta_atNumber
  rw [hS.i67, obs, hL.2.2.1, show (2 : Int32) = iI 2 by decide]
  by_cases c : kdT tb l s = 2
  · rw [if_pos (ceqT (by omega)), hS.i67, obs, hL.2.2.2.2.2, s_withinI (zR_of (by omega) (by omega)) (zR_of (by omega) (by omega)) (zR_of (by omega) (by omega)), obs]
    by_cases d : a ≤ vT tb l s ∧ vT tb l s ≤ b
    · rw [if_pos (decide_eq_true d), decide_eq_true (show kdT tb l s = 2 ∧ a ≤ vT tb l s ∧ vT tb l s ≤ b from ⟨c, d⟩)]
    · rw [if_neg (fun q => d (of_decide_eq_true q)), decide_eq_false (show ¬ (kdT tb l s = 2 ∧ a ≤ vT tb l s ∧ vT tb l s ≤ b) from fun q => d q.2)]
  · rw [if_neg (ceqF (show ¬ (kdT tb l s : Int) = 2 by omega) (by omega) (by omega) (by omega) (by omega)), decide_eq_false (fun q => c q.1)]
theorem vn_rel {s : Nat} : ∀ i, (∀ q, s ≤ q → q < s + i → isD (tb q) = true) → (vD tb s i = nD tb s i ∧ vD tb s i < 10000) ∨ (vD tb s i = 10000 ∧ 10000 ≤ nD tb s i) := by
  intro i
  induction i with
  | zero => intro _; exact Or.inl ⟨rfl, show (0 : Int) < 10000 by decide⟩
  | succ i ih =>
    intro h
    have h1 := ih (fun q q1 q2 => h q q1 (by omega))
    have h2 := of_decide_eq_true (h (s + i) (by omega) (by omega))
    have e1 : vD tb s (i + 1) = if vD tb s i * 10 + tb (s + i) - 48 ≤ 10000 then vD tb s i * 10 + tb (s + i) - 48 else 10000 := rfl
    have e2 : nD tb s (i + 1) = if nD tb s i ≤ 1000000 then nD tb s i * 10 + tb (s + i) - 48 else nD tb s i := rfl
    rw [e1, e2]
    split <;> split <;> omega
/-- class's and model's number -/
theorem vw {s : Nat} (hs : s ≤ l) (hk : kdT tb l s = 2) : (vT tb l s = wT tb l s ∧ vT tb l s < 10000) ∨ (vT tb l s = 10000 ∧ 10000 ≤ wT tb l s) := by
  have d2 := sE_ok (c := isD) (tb := tb) (l := l) (p := s) hs
  have ee : tE tb l s = sE isD tb l s := by unfold tE; rw [if_neg (by omega), if_neg (by omega), if_pos hk]
  unfold vT wT
  rw [if_pos hk, if_neg (by omega), if_neg (by omega), if_pos hk]
  exact vn_rel (tb := tb) (s := s) (tE tb l s - s) (fun q q1 q2 => d2.2.2.1 q q1 (by omega))
/-- must: so -/
theorem m_mustT (hS : ShOK S B) (hn : 1000 ≤ n) {s : Nat} (hL : LM M B tb l s) (h19 : mI M (B + 105) 19 = iI 0) : ∃ M', F_Mo_must n E S (B + 105) (iI 1) M = some M' ∧ LM M' B tb l (sT tb l (tE tb l s)) ∧ zAg (mtX B) M M' := by
  obtain ⟨M', e, h1, h2⟩ := m_nxt (n := n) (E := E) hS hn hL.1 (tE_b hL.2.1).2.1 hL.2.2.2.1
  refine ⟨M', ?_, h1, h2⟩
  unfold F_Mo_must F_Mo_must_b24
  rw [hS.i105, obs, h19, iL0, if_pos rfl, if_neg (show ¬ iI 1 = iI 0 by decide), obs, if_pos rfl, e, obs]
/-- must: not so -/
theorem m_mustF (hS : ShOK S B) {s : Nat} (hL : LM M B tb l s) (h19 : mI M (B + 105) 19 = iI 0) : F_Mo_must n E S (B + 105) (iI 0) M = some (setI (setI M (B + 105) 19 (iI 1)) (B + 105) 18 (iI (s : Int))) := by
  unfold F_Mo_must F_Mo_must_b24
  rw [hS.i105, obs, h19, iL0, if_pos rfl, if_pos rfl, show (1 : Int32) = bI true from rfl, hS.zb105, obs, hS.i105, obs, mI_i (by decide), hL.2.2.1, hS.p105, obs, hS.i105, obs, mI_i (by decide), mI_s, if_neg (show ¬ bI true = iI 0 by decide)]
  rfl
end
