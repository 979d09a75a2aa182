/-! law and orders: words and signs -/
theorem tE_b {tb : Nat → Int} {l s : Nat} (h : s ≤ l) : s ≤ tE tb l s ∧ tE tb l s ≤ l ∧ (s < l → s < tE tb l s) := by
  have d1 := sE_ok (c := isL) (tb := tb) h
  have d2 := sE_ok (c := isD) (tb := tb) h
  unfold tE
  by_cases c : s < l
  · rcases kdT_cases (tb := tb) c with ⟨k1, k2⟩ | ⟨k1, k2, k3⟩ | ⟨k1, k2, k3⟩
    · rw [if_neg (by omega), if_pos k2]
      refine ⟨d1.1, d1.2.1, fun _ => ?_⟩
      by_cases z : sE isL tb l s = s
      · have := d1.2.2.2 (by omega)
        rw [z, k1] at this; cases this
      · omega
    · rw [if_neg (by omega), if_neg (by omega), if_pos k3]
      refine ⟨d2.1, d2.2.1, fun _ => ?_⟩
      by_cases z : sE isD tb l s = s
      · have := d2.2.2.2 (by omega)
        rw [z, k2] at this; cases this
      · omega
    · rw [if_neg (by omega), if_neg (by omega), if_neg (by omega)]; omega
  · have k0 : kdT tb l s = 0 := by unfold kdT; rw [if_pos (by omega)]
    rw [if_pos k0]; omega
def lc (i j : Nat) : Int := ((zLit i).getD j 0).toInt
theorem lc_e {i j : Nat} : (zLit i).getD j 0 = iI (lc i j) := by unfold iI lc; rw [Int32.ofInt_toInt]
theorem lit_ok : ∀ i, i < 14 → (zLit i).length ≤ 48 ∧ ∀ j, j < (zLit i).length → (((zLit i).getD j 0 &&& (255 : Int32)).toUInt32 % 65536).toInt32 = (zLit i).getD j 0 ∧ (((zLit i).getD j 0).toUInt32 % 65536).toInt32 = (zLit i).getD j 0 ∧ 32 ≤ lc i j ∧ lc i j ≤ 122 := by decide +kernel
section
variable {n : Nat} {E : zE} {S : zS} {M M' : zH} {B : Nat} {tb : Nat → Int} {l : Nat}
theorem zli_i {i : Nat} (h : i < 14) : zli i = some () := if_pos h
theorem zln_i {i : Nat} (h : i < 14) : zln i = some (iI ((zLit i).length : Int)) := by unfold zln; rw [if_pos h, iI_nat]
theorem zlb_i {i j : Nat} (h : i < 14) (hj : j < (zLit i).length) : zlb i (iI (j : Int)) = some (iI (lc i j)) := by
  have := (lit_ok i h).1
  unfold zlb
  rw [if_pos ⟨h, pi_ix (by omega) (by omega) (by omega)⟩, iI_clamp (by omega) (by omega), Int.toNat_natCast, lc_e]
theorem s_chr {i j : Nat} (h : i < 14) (hj : j < (zLit i).length) : F_Js_charAt n E S i (iI (j : Int)) M = some (iI (lc i j), M) := by
  obtain ⟨h1, h2⟩ := lit_ok i h
  obtain ⟨g1, g2, g3, g4⟩ := h2 j hj
  rw [lc_e] at g1 g2
  have e1 : F_Jl_charAt n E S i (iI (j : Int)) M = some (iI (lc i j), M) := by
    unfold F_Jl_charAt F_Jl_charAt_i F_Js_checkIndex F_Jp_checkIndex
    rw [zln_i h, obs, iL0, if_neg (cltF (by omega) (by omega) (by omega)), if_pos (cltT (by omega) (by omega) (by omega)), obs, obs, zlb_i h hj, obs, g1, obs, if_pos g2]
  unfold F_Js_charAt F_Js_charAt_i F_Js_isLatin1
  rw [zli_i h, obs, if_neg (show ¬ (1 : Int32) = 0 by decide), obs, if_pos (show (0 : Int32) = 0 from rfl), obs, if_pos rfl, obs, e1, obs, obs, if_pos g2]
theorem s_lenL {i : Nat} (h : i < 14) : F_Js_length n E S i M = some (iI ((zLit i).length : Int), M) := by
  have h1 := (lit_ok i h).1
  unfold F_Js_length F_Js_coder F_Js_coder_i
  rw [zli_i h, obs, zln_i h, obs, obs, if_neg (show ¬ (1 : Int32) = 0 by decide), obs, obs, if_pos (show ((0 : Int32).toInt8.toInt32) = 0 by decide), obs, iL31, show (0 : Int32) = iI 0 by decide, xshr (by omega) (by omega) (by omega) (by omega)]
  show some (iI (((zLit i).length : Int) / 1), M) = _
  rw [Int.ediv_one]
/-- the token is the literal's letters from a to b -/
def smW (tb : Nat → Int) (l s i a b : Nat) : Bool := decide (tE tb l s - s = b - a ∧ ∀ j, j < b - a → lc i (a + j) = tb (s + j))
theorem s_same (hS : ShOK S B) (hn : 1000 ≤ n) {s i a b : Nat} (hL : LC M B tb l s) (hi : i < 14) (hab : a ≤ b) (hb : b ≤ (zLit i).length) : F_Ta_isSame n E S (B + 67) i (iI (a : Int)) (iI (b : Int)) M = some (smW tb l s i a b, M) := by
  obtain ⟨hT, hs, k2, k3, k4, k5⟩ := hL
  have hl := hT.1
  have hl4 := (lit_ok i hi).1
  obtain ⟨t1, t2, _⟩ := tE_b (tb := tb) hs
  unfold F_Ta_isSame
  rw [hS.i67, obs, hS.i67, obs, k4, k3, iI_sub, iI_sub]
  by_cases c : tE tb l s - s = b - a
  · rw [if_pos (ceqT (by omega))]
    unfold F_Ta_isSame_b20
    have key : ∀ (r k fuel : Nat), r + k = b - a → r < fuel → (∀ j, j < k → lc i (a + j) = tb (s + j)) → zfix (fun r20 s => F_Ta_isSame_L20 n E S r20 s.1 s.2.1 s.2.2.1 s.2.2.2.1 s.2.2.2.2.1 s.2.2.2.2.2) fuel (B + 67, i, iI (a : Int), iI (b : Int), iI ((a + k : Nat) : Int), M) = some (smW tb l s i a b, M) := by
      intro r
      induction r with
      | zero =>
        intro k fuel hr hf hm
        obtain ⟨fuel, rfl⟩ : ∃ f', fuel = f' + 1 := ⟨fuel - 1, by omega⟩
        show F_Ta_isSame_L20 n E S _ (B + 67) i (iI (a : Int)) (iI (b : Int)) (iI ((a + k : Nat) : Int)) M = _
        unfold F_Ta_isSame_L20
        rw [if_pos (cleT (by omega) (by omega) (by omega))]
        unfold smW
        rw [decide_eq_true ⟨c, fun j hj => hm j (by omega)⟩]
      | succ r ih =>
        intro k fuel hr hf hm
        obtain ⟨fuel, rfl⟩ : ∃ f', fuel = f' + 1 := ⟨fuel - 1, by omega⟩
        have ih' := ih (k + 1) fuel (by omega) (by omega)
        show F_Ta_isSame_L20 n E S _ (B + 67) i (iI (a : Int)) (iI (b : Int)) (iI ((a + k : Nat) : Int)) M = _
        generalize zfix (fun r20 s => F_Ta_isSame_L20 n E S r20 s.1 s.2.1 s.2.2.1 s.2.2.2.1 s.2.2.2.2.1 s.2.2.2.2.2) fuel = rec at ih' ⊢
        have hx := hT.2.2 (s + k) (by omega)
        have hy := ((lit_ok i hi).2 (a + k) (by omega)).2.2
        unfold F_Ta_isSame_L20
        rw [if_neg (cleF (by omega) (by omega) (by omega)), zli_i hi, obs, s_chr hi (by omega), obs, hS.i67 (M := M), obs, k3, iI_add, iI_sub, show (s : Int) + ((a + k : Nat) : Int) - (a : Int) = ((s + k : Nat) : Int) by omega, s_byT hS hT (by omega), obs]
        by_cases z : lc i (a + k) = tb (s + k)
        · rw [if_pos (ceqT z), iL1, iI_add]
          exact ih' (fun j hj => by
            by_cases zz : j = k
            · rw [zz]; exact z
            · exact hm j (by omega))
        · rw [if_neg (ceqF z (by omega) (by omega) (by omega) (by omega))]
          unfold smW
          rw [decide_eq_false (fun q => z (q.2 k (by omega)))]
    exact key (b - a) 0 n (by omega) (by omega) (fun j hj => by omega)
  · rw [if_neg (ceqF (by omega) (by omega) (by omega) (by omega) (by omega))]
    unfold smW
    rw [decide_eq_false (fun q => c q.1)]
/-- the token is the word of the literal i -/
def isWd (tb : Nat → Int) (l s i : Nat) : Bool := decide (kdT tb l s = 1) && smW tb l s i 0 (zLit i).length
theorem s_atWord (hS : ShOK S B) (hn : 1000 ≤ n) {s i : Nat} (hL : LC M B tb l s) (hi : i < 14) : F_Ta_atWord n E S (B + 67) i M = some (isWd tb l s i, M) := by
  have h1 := s_same (n := n) (E := E) hS hn hL hi (Nat.zero_le _) (Nat.le_refl (zLit i).length)
  have hk3 : kdT tb l s ≤ 3 := by unfold kdT; split; omega; split; omega; split <;> omega
  unfold F_Ta_atWord isWd
  rw [hS.i67, obs, hL.2.2.1, iL1]
  by_cases c : kdT tb l s = 1
  · rw [if_pos (ceqT (by omega)), zli_i hi, obs, s_lenL hi, obs, show (0 : Int32) = iI ((0 : Nat) : Int) by decide, h1, obs, decide_eq_true c, Bool.true_and]
    cases smW tb l s i 0 (zLit i).length <;> rfl
  · rw [if_neg (ceqF (show ¬ (kdT tb l s : Int) = 1 by omega) (by omega) (by omega) (by omega) (by omega)), decide_eq_false c, Bool.false_and]
/-- the hash of letters -/
def hV (g : Nat → Int) : Nat → Int
  | 0 => 0
  | k + 1 => hV g k * 32 + g k - 96
theorem hV_inj {f g : Nat → Int} : ∀ m k : Nat, (∀ j, j < m → 97 ≤ f j ∧ f j ≤ 122) → (∀ j, j < k → 97 ≤ g j ∧ g j ≤ 122) → hV f m = hV g k → m = k ∧ ∀ j, j < m → f j = g j := by
  have pos : ∀ (g : Nat → Int) (k : Nat), (∀ j, j < k → 97 ≤ g j ∧ g j ≤ 122) → 0 ≤ hV g k := by
    intro g k
    induction k with
    | zero => intro _; exact Int.le_refl 0
    | succ k ih => intro h; have := ih (fun j hj => h j (by omega)); have := h k (by omega); show 0 ≤ hV g k * 32 + g k - 96; omega
  intro m
  induction m with
  | zero =>
    intro k hf hg e
    cases k with
    | zero => exact ⟨rfl, fun j hj => by omega⟩
    | succ k =>
      have h1 := pos g k (fun j hj => hg j (by omega))
      have h2 := hg k (by omega)
      have e' : (0 : Int) = hV g k * 32 + g k - 96 := e
      omega
  | succ m ih =>
    intro k hf hg e
    cases k with
    | zero =>
      have h1 := pos f m (fun j hj => hf j (by omega))
      have h2 := hf m (by omega)
      have e' : hV f m * 32 + f m - 96 = 0 := e
      omega
    | succ k =>
      have e' : hV f m * 32 + f m - 96 = hV g k * 32 + g k - 96 := e
      have h1 := hf m (by omega)
      have h2 := hg k (by omega)
      obtain ⟨q1, q2⟩ := ih k (fun j hj => hf j (by omega)) (fun j hj => hg j (by omega)) (by omega)
      refine ⟨by omega, fun j hj => ?_⟩
      by_cases z : j = m
      · rw [z]; subst q1; omega
      · exact q2 j (by omega)
theorem hW_hV {s : Nat} : ∀ i, i ≤ 10 → hW tb s i = hV (fun j => tb (s + j)) i := by
  intro i
  induction i with
  | zero => intro _; rfl
  | succ i ih =>
    intro h
    show (if i < 10 then hW tb s i * 32 + tb (s + i) - 96 else -1) = hV (fun j => tb (s + j)) i * 32 + tb (s + i) - 96
    rw [if_pos (by omega), ih (by omega)]
theorem hV_pos {g : Nat → Int} : ∀ k, (∀ j, j < k → 97 ≤ g j ∧ g j ≤ 122) → 0 ≤ hV g k := by
  intro k
  induction k with
  | zero => intro _; exact Int.le_refl 0
  | succ k ih => intro h; have := ih (fun j hj => h j (by omega)); have := h k (by omega); show 0 ≤ hV g k * 32 + g k - 96; omega
/-- the hash says which letters the token has -/
theorem hW_iff {s : Nat} (hs : s ≤ l) (hk : kdT tb l s = 1) {i a b : Nat} (hab : a ≤ b) (hb : b ≤ a + 10) (hc : ∀ j, a ≤ j → j < b → 97 ≤ lc i j ∧ lc i j ≤ 122) : (wT tb l s = hV (fun j => lc i (a + j)) (b - a)) ↔ smW tb l s i a b = true := by
  obtain ⟨d1, d2, d3, d4⟩ := sE_ok (c := isL) (tb := tb) (l := l) (p := s) hs
  have ee : tE tb l s = sE isL tb l s := by unfold tE; rw [if_neg (by omega), if_pos hk]
  have ew : wT tb l s = hW tb s (tE tb l s - s) := by unfold wT; rw [if_neg (by omega), if_pos hk]
  have hf : ∀ j, j < tE tb l s - s → 97 ≤ tb (s + j) ∧ tb (s + j) ≤ 122 := fun j hj => of_decide_eq_true (d3 (s + j) (by omega) (by omega))
  have hg : ∀ j, j < b - a → 97 ≤ lc i (a + j) ∧ lc i (a + j) ≤ 122 := fun j hj => hc (a + j) (by omega) (by omega)
  rw [ew]
  unfold smW
  generalize tE tb l s - s = m at hf
  by_cases c : m ≤ 10
  · rw [hW_hV m c]
    constructor
    · intro q
      obtain ⟨q1, q2⟩ := hV_inj m (b - a) hf hg q
      exact decide_eq_true ⟨q1, fun j hj => (q2 j (by omega)).symm⟩
    · intro q
      obtain ⟨q1, q2⟩ := of_decide_eq_true q
      have cg : ∀ k, k ≤ b - a → hV (fun j => tb (s + j)) k = hV (fun j => lc i (a + j)) k := by
        intro k
        induction k with
        | zero => intro _; rfl
        | succ k ih =>
          intro hk
          show hV (fun j => tb (s + j)) k * 32 + tb (s + k) - 96 = hV (fun j => lc i (a + j)) k * 32 + lc i (a + k) - 96
          rw [ih (by omega), q2 k (by omega)]
      rw [q1]; exact cg _ (Nat.le_refl _)
  · obtain ⟨m', rfl⟩ : ∃ j, m = j + 1 := ⟨m - 1, by omega⟩
    have e : hW tb s (m' + 1) = if m' < 10 then hW tb s m' * 32 + tb (s + m') - 96 else -1 := rfl
    rw [e, if_neg (by omega)]
    have := hV_pos (g := fun j => lc i (a + j)) (b - a) hg
    constructor
    · intro q; omega
    · intro q
      have := (of_decide_eq_true q).1
      omega
theorem wT_b {s : Nat} (hT : ∀ k, k < l → 0 ≤ tb k ∧ tb k < 256) (hs : s ≤ l) : -1 ≤ wT tb l s ∧ wT tb l s < 2000000000000000 := by
  have d1 := sE_ok (c := isL) (tb := tb) (l := l) (p := s) hs
  have d2 := sE_ok (c := isD) (tb := tb) (l := l) (p := s) hs
  unfold wT
  by_cases z0 : kdT tb l s = 0
  · rw [if_pos z0]; decide
  · rw [if_neg z0]
    have hsl : s < l := by
      by_cases z : s < l
      · exact z
      · exact absurd (by unfold kdT; rw [if_pos (by omega)]) z0
    by_cases z1 : kdT tb l s = 1
    · rw [if_pos z1]
      have ee : tE tb l s = sE isL tb l s := by unfold tE; rw [if_neg (by omega), if_pos z1]
      exact hW_b' _ (fun q q1 q2 => d1.2.2.1 q q1 (by omega))
    · rw [if_neg z1]
      by_cases z2 : kdT tb l s = 2
      · rw [if_pos z2]
        have ee : tE tb l s = sE isD tb l s := by unfold tE; rw [if_neg (by omega), if_neg (by omega), if_pos z2]
        have := nD_b (tb := tb) (s := s) (tE tb l s - s) (fun q q1 q2 => d2.2.2.1 q q1 (by omega))
        omega
      · rw [if_neg z2]; have := hT s hsl; omega
theorem m_isWord (hS : ShOK S B) {s : Nat} (hL : LM M B tb l s) {C : Int} (h1 : -1000 ≤ C) (h2 : C < 2000000000000000) : F_Mo_isWord n E S (B + 105) (jJ C) M = some (decide (kdT tb l s = 1 ∧ wT tb l s = C), M) := by
  have hk3 : kdT tb l s ≤ 3 := by unfold kdT; split; omega; split; omega; split <;> omega
  have hw := wT_b (tb := tb) (fun k hk => ⟨(hL.1.2.2 k hk).1, (hL.1.2.2 k hk).2.1⟩) hL.2.1
  unfold F_Mo_isWord
  rw [hS.i105, obs, hL.2.2.2.2.1, iL1]
  by_cases c : kdT tb l s = 1
  · rw [if_pos (ceqT (by omega)), hS.ij105, obs, hL.2.2.2.2.2]
    by_cases d : wT tb l s = C
    · rw [if_pos (by rw [d]), decide_eq_true ⟨c, d⟩]
    · rw [if_neg (fun q => d ((yeq (by omega) (by omega) (by omega) (by omega)).mp q)), decide_eq_false (fun q => d q.2)]
  · rw [if_neg (ceqF (show ¬ (kdT tb l s : Int) = 1 by omega) (by omega) (by omega) (by omega) (by omega)), decide_eq_false (fun q => c q.1)]
theorem m_isSign (hS : ShOK S B) {s : Nat} (hL : LM M B tb l s) {C : Int} (h1 : -1000 ≤ C) (h2 : C < 1000) : F_Mo_isSign n E S (B + 105) (iI C) M = some (decide (kdT tb l s = 3 ∧ tb s = C), M) := by
  have hk3 : kdT tb l s ≤ 3 := by unfold kdT; split; omega; split; omega; split <;> omega
  have hw := wT_b (tb := tb) (fun k hk => ⟨(hL.1.2.2 k hk).1, (hL.1.2.2 k hk).2.1⟩) hL.2.1
  unfold F_Mo_isSign
  rw [hS.i105, obs, hL.2.2.2.2.1, iL3]
  by_cases c : kdT tb l s = 3
  · have ew : wT tb l s = tb s := by unfold wT; rw [if_neg (by omega), if_neg (by omega), if_neg (by omega)]
    rw [if_pos (ceqT (by omega)), hS.ij105, obs, hL.2.2.2.2.2, xJ (by omega) (by omega)]
    rw [ew] at hw ⊢
    by_cases d : tb s = C
    · rw [if_pos (by rw [d]), decide_eq_true ⟨c, d⟩]
    · rw [if_neg (fun q => d ((yeq (by omega) (by omega) (by omega) (by omega)).mp q)), decide_eq_false (fun q => d q.2)]
  · rw [if_neg (ceqF (show ¬ (kdT tb l s : Int) = 3 by omega) (by omega) (by omega) (by omega) (by omega)), decide_eq_false (fun q => c q.1)]
theorem s_atSign (hS : ShOK S B) {s : Nat} (hL : LC M B tb l s) {C : Int} (h1 : -1000 ≤ C) (h2 : C < 1000) : F_Ta_atSign n E S (B + 67) (iI C) M = some (decide (kdT tb l s = 3 ∧ tb s = C), M) := by
  have hk3 : kdT tb l s ≤ 3 := by unfold kdT; split; omega; split; omega; split <;> omega
  unfold F_Ta_atSign
  rw [hS.i67, obs, hL.2.2.1, iL3]
  by_cases c : kdT tb l s = 3
  · have hsl : s < l := by
      by_cases z : s < l
      · exact z
      · exact absurd (show kdT tb l s = 0 by unfold kdT; rw [if_pos (by omega)]) (by omega)
    have hx := hL.1.2.2 s hsl
    rw [if_pos (ceqT (by omega)), hS.i67, obs, hL.2.2.2.1, s_byT hS hL.1 hsl, obs]
    by_cases d : tb s = C
    · rw [if_pos (ceqT d), decide_eq_true ⟨c, d⟩]
    · rw [if_neg (ceqF d (by omega) (by omega) (by omega) (by omega)), decide_eq_false (fun q => d q.2)]
  · rw [if_neg (ceqF (show ¬ (kdT tb l s : Int) = 3 by omega) (by omega) (by omega) (by omega) (by omega)), decide_eq_false (fun q => c q.1)]
end
/-- which word of the list the token is -/
def ixW (tb : Nat → Int) (l s i : Nat) : List (Nat × Nat) → Int → Int
  | [], _ => -1
  | w :: t, k => if smW tb l s i w.1 w.2 = true then k else ixW tb l s i t (k + 1)
def wlOK (i : Nat) : List (Nat × Nat) → Nat → Prop
  | [], p => p = (zLit i).length
  | w :: t, p => w.1 = p ∧ w.1 ≤ w.2 ∧ w.2 < (zLit i).length ∧ (∀ j, j < w.2 → w.1 ≤ j → 97 ≤ lc i j ∧ lc i j ≤ 122) ∧ lc i w.2 = 32 ∧ wlOK i t (w.2 + 1)
def wl0 : List (Nat × Nat) := [(0, 5), (6, 10), (11, 14), (15, 19)]
def wl1 : List (Nat × Nat) := [(0, 4), (5, 10), (11, 15), (16, 20)]
def wl4 : List (Nat × Nat) := [(0, 4), (5, 9), (10, 16), (17, 23), (24, 28), (29, 34), (35, 39)]
def wl5 : List (Nat × Nat) := [(0, 4), (5, 9), (10, 14), (15, 20), (21, 27), (28, 33), (34, 38), (39, 42), (43, 47)]
def wlB (i : Nat) : List (Nat × Nat) → Nat → Bool
  | [], p => decide (p = (zLit i).length)
  | w :: t, p => decide (w.1 = p ∧ w.1 ≤ w.2 ∧ w.2 < (zLit i).length ∧ (∀ j, j < w.2 → w.1 ≤ j → 97 ≤ lc i j ∧ lc i j ≤ 122) ∧ lc i w.2 = 32) && wlB i t (w.2 + 1)
theorem wlB_ok {i : Nat} : ∀ (wl : List (Nat × Nat)) (p : Nat), wlB i wl p = true → wlOK i wl p := by
  intro wl
  induction wl with
  | nil => intro p h; exact show p = (zLit i).length from of_decide_eq_true (show decide (p = (zLit i).length) = true from h)
  | cons w t ih =>
    intro p h
    have h' : (decide (w.1 = p ∧ w.1 ≤ w.2 ∧ w.2 < (zLit i).length ∧ (∀ j, j < w.2 → w.1 ≤ j → 97 ≤ lc i j ∧ lc i j ≤ 122) ∧ lc i w.2 = 32) && wlB i t (w.2 + 1)) = true := h
    rw [Bool.and_eq_true] at h'
    obtain ⟨h1, h2, h3, h4, h5⟩ := of_decide_eq_true h'.1
    exact ⟨h1, h2, h3, h4, h5, ih _ h'.2⟩
theorem wl_ok : wlOK 0 wl0 0 ∧ wlOK 1 wl1 0 ∧ wlOK 4 wl4 0 ∧ wlOK 5 wl5 0 := ⟨wlB_ok _ _ (by decide +kernel), wlB_ok _ _ (by decide +kernel), wlB_ok _ _ (by decide +kernel), wlB_ok _ _ (by decide +kernel)⟩
section
variable {n : Nat} {E : zE} {S : zS} {M M' : zH} {B : Nat} {tb : Nat → Int} {l : Nat}
theorem s_indexIn (hS : ShOK S B) (hn : 1000 ≤ n) {s i : Nat} (hL : LC M B tb l s) (hi : i < 14) {wl : List (Nat × Nat)} (hw : wlOK i wl 0) : F_Ta_indexIn n E S (B + 67) i M = some (iI (if kdT tb l s = 1 then ixW tb l s i wl 0 else -1), M) := by
  have hk3 : kdT tb l s ≤ 3 := by unfold kdT; split; omega; split; omega; split <;> omega
  have hl4 := (lit_ok i hi).1
  unfold F_Ta_indexIn
  rw [hS.i67, obs, hL.2.2.1, iL1]
  by_cases c : kdT tb l s = 1
  · rw [if_pos (ceqT (by omega)), if_pos c]
    unfold F_Ta_indexIn_b17
    have walk : ∀ (r a p fuel : Nat) (idx : Int) (b : Nat), r + p = b → b < (zLit i).length → (∀ j, j < b → p ≤ j → lc i j ≠ 32) → zfix (fun r17 s => F_Ta_indexIn_L17 n E S r17 s.1 s.2.1 s.2.2.1 s.2.2.2.1 s.2.2.2.2.1 s.2.2.2.2.2) (r + fuel) (B + 67, i, iI idx, iI (a : Int), iI (p : Int), M) = zfix (fun r17 s => F_Ta_indexIn_L17 n E S r17 s.1 s.2.1 s.2.2.1 s.2.2.2.1 s.2.2.2.2.1 s.2.2.2.2.2) fuel (B + 67, i, iI idx, iI (a : Int), iI (b : Int), M) := by
      intro r
      induction r with
      | zero => intro a p fuel idx b h1 h2 h3; rw [Nat.zero_add, show p = b by omega]
      | succ r ih =>
        intro a p fuel idx b h1 h2 h3
        have hy := ((lit_ok i hi).2 p (by omega)).2.2
        have ih' := ih a (p + 1) fuel idx b (by omega) h2 (fun j hj hp => h3 j hj (by omega))
        rw [show r + 1 + fuel = (r + fuel) + 1 by omega, ← ih']
        show F_Ta_indexIn_L17 n E S _ (B + 67) i (iI idx) (iI (a : Int)) (iI (p : Int)) M = _
        generalize zfix (fun r17 s => F_Ta_indexIn_L17 n E S r17 s.1 s.2.1 s.2.2.1 s.2.2.2.1 s.2.2.2.2.1 s.2.2.2.2.2) (r + fuel) = rec
        unfold F_Ta_indexIn_L17 F_Ta_indexIn_b58
        rw [zli_i hi, obs, s_lenL hi, obs, if_neg (cleF (by omega) (by omega) (by omega)), obs, s_chr hi (by omega), obs, show (32 : Int32) = iI 32 by decide, if_neg (ceqF (h3 p (by omega) (Nat.le_refl _)) (by omega) (by omega) (by omega) (by omega)), iL1, iI_add]
        rfl
    have key : ∀ (wl : List (Nat × Nat)) (p : Nat) (idx : Int) (fuel : Nat), wlOK i wl p → p ≤ (zLit i).length → (zLit i).length - p < fuel → -1 ≤ idx → idx ≤ (p : Int) → zfix (fun r17 s => F_Ta_indexIn_L17 n E S r17 s.1 s.2.1 s.2.2.1 s.2.2.2.1 s.2.2.2.2.1 s.2.2.2.2.2) fuel (B + 67, i, iI idx, iI (p : Int), iI (p : Int), M) = some (iI (ixW tb l s i wl idx), M) := by
      intro wl
      induction wl with
      | nil =>
        intro p idx fuel h1 h2 h3 _ _
        have h1' : p = (zLit i).length := h1
        obtain ⟨fuel, rfl⟩ : ∃ f', fuel = f' + 1 := ⟨fuel - 1, by omega⟩
        show F_Ta_indexIn_L17 n E S _ (B + 67) i (iI idx) (iI (p : Int)) (iI (p : Int)) M = _
        unfold F_Ta_indexIn_L17
        rw [zli_i hi, obs, s_lenL hi, obs, if_pos (cleT (by omega) (by omega) (by omega)), iL1, iI_neg]
        rfl
      | cons w t ih =>
        intro p idx fuel h1 h2 h3 q1 q2
        obtain ⟨g1, g2, g3, g4, g5, g6⟩ := h1
        obtain ⟨fuel, rfl⟩ : ∃ f', fuel = (w.2 - p) + (f' + 1) := ⟨fuel - (w.2 - p) - 1, by omega⟩
        rw [walk (w.2 - p) p p (fuel + 1) idx w.2 (by omega) g3 (fun j hj hp => by have := g4 j hj (by omega); omega)]
        have ih' := ih (w.2 + 1) (idx + 1) fuel g6 (by omega) (by omega) (by omega) (by omega)
        show F_Ta_indexIn_L17 n E S _ (B + 67) i (iI idx) (iI (p : Int)) (iI (w.2 : Int)) M = _
        generalize zfix (fun r17 s => F_Ta_indexIn_L17 n E S r17 s.1 s.2.1 s.2.2.1 s.2.2.2.1 s.2.2.2.2.1 s.2.2.2.2.2) fuel = rec at ih' ⊢
        have e : ixW tb l s i (w :: t) idx = if smW tb l s i w.1 w.2 = true then idx else ixW tb l s i t (idx + 1) := rfl
        unfold F_Ta_indexIn_L17 F_Ta_indexIn_b58
        rw [zli_i hi, obs, s_lenL hi, obs, if_neg (cleF (by omega) (by omega) (by omega)), obs, s_chr hi (by omega), obs, show (32 : Int32) = iI 32 by decide, if_pos (ceqT g5), hS.ck67, obs, s_same hS hn hL hi (by omega) (by omega), obs, e, g1]
        by_cases z : smW tb l s i p w.2 = true
        · rw [if_pos z, if_pos z]
        · rw [if_neg z, if_neg z, iL1, iI_add, iI_add]
          exact ih'
    have := key wl 0 0 n hw (Nat.zero_le _) (by omega) (by decide) (by decide)
    exact this
  · rw [if_neg (ceqF (show ¬ (kdT tb l s : Int) = 1 by omega) (by omega) (by omega) (by omega) (by omega)), if_neg c, iI_neg]
end
