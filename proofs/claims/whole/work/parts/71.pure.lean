/-! PURE: a program's logic over Option -/
/-- it answers, and the answer is so -/
def zw {α : Type} (x : Option α) (Q : α → Prop) : Prop := ∃ v, x = some v ∧ Q v
theorem zw_some {α : Type} {v : α} {Q : α → Prop} (h : Q v) : zw (some v) Q := ⟨v, rfl, h⟩
theorem zw_bind {α β : Type} {x : Option α} {f : α → Option β} {P : α → Prop} {Q : β → Prop} (h : zw x P) (k : ∀ v, P v → zw (f v) Q) : zw (x.bind f) Q := by
  obtain ⟨v, rfl, hv⟩ := h
  exact k v hv
theorem zw_mono {α : Type} {x : Option α} {P Q : α → Prop} (h : zw x P) (k : ∀ v, P v → Q v) : zw x Q := by
  obtain ⟨v, e, hv⟩ := h
  exact ⟨v, e, k v hv⟩
theorem zw_eq {α : Type} {x : Option α} {v : α} {Q : α → Prop} (e : x = some v) (h : Q v) : zw x Q := ⟨v, e, h⟩
theorem zw_be {α β : Type} {x : Option α} {v : α} {f : α → Option β} {Q : β → Prop} (e : x = some v) (h : zw (f v) Q) : zw (x.bind f) Q := by subst e; exact h
theorem zw_if {α : Type} {c : Prop} [Decidable c] {x y : Option α} {Q : α → Prop} (h1 : c → zw x Q) (h2 : ¬ c → zw y Q) : zw (if c then x else y) Q := by
  by_cases hc : c
  · rw [if_pos hc]; exact h1 hc
  · rw [if_neg hc]; exact h2 hc
theorem zw_pos {α : Type} {c : Prop} [Decidable c] {x y : Option α} {Q : α → Prop} (hc : c) (h1 : zw x Q) : zw (if c then x else y) Q := by rw [if_pos hc]; exact h1
theorem zw_neg {α : Type} {c : Prop} [Decidable c] {x y : Option α} {Q : α → Prop} (hc : ¬ c) (h1 : zw y Q) : zw (if c then x else y) Q := by rw [if_neg hc]; exact h1
/-- loops: an invariant by rounds; the last round is looked at apart -/
theorem zfix_inv {σ τ : Type} {F : (σ → Option τ) → σ → Option τ} (I : Nat → σ → Prop) (N : Nat) (hs : ∀ i, i < N → ∀ s, I i s → ∃ s', I (i + 1) s' ∧ ∀ rec, F rec s = rec s') : ∀ (k i : Nat) (s : σ), i ≤ N → N - i < k → I i s → ∃ s' m, I N s' ∧ zfix F k s = F (zfix F m) s' := by
  intro k
  induction k with
  | zero => intro i s hi hk; omega
  | succ k ih =>
    intro i s hi hk hI
    by_cases h : i = N
    · subst h; exact ⟨s, k, hI, rfl⟩
    · obtain ⟨s', hI', e⟩ := hs i (by omega) s hI
      obtain ⟨s2, m, h2, e2⟩ := ih (i + 1) s' (by omega) (by omega) hI'
      exact ⟨s2, m, h2, by rw [← e2]; exact e _⟩
theorem zfix_s {σ τ : Type} (F : (σ → Option τ) → σ → Option τ) (k : Nat) (s : σ) : zfix F (k + 1) s = F (zfix F k) s := rfl
/-- a loop whose states are told ahead -/
theorem zfix_for {σ τ : Type} {F : (σ → Option τ) → σ → Option τ} (st : Nat → σ) (N : Nat) (hs : ∀ i, i < N → ∀ rec, F rec (st i) = rec (st (i + 1))) {k : Nat} (hk : N < k) : ∃ m, zfix F k (st 0) = F (zfix F m) (st N) := by
  obtain ⟨s', m, h, e⟩ := zfix_inv (F := F) (fun i s => s = st i) N (fun i hi s hI => ⟨st (i + 1), rfl, by subst hI; exact hs i hi⟩) k 0 (st 0) (Nat.zero_le _) (by omega) rfl
  exact ⟨m, by rw [e, h]⟩
/-- sums of the first n -/
def zsum (f : Nat → Int) : Nat → Int
  | 0 => 0
  | n + 1 => zsum f n + f n
theorem zsum_le {f : Nat → Int} {c : Int} (n : Nat) (h : ∀ i, i < n → 0 ≤ f i ∧ f i ≤ c) : 0 ≤ zsum f n ∧ zsum f n ≤ n * c := by
  induction n with
  | zero => simp [zsum]
  | succ n ih =>
    have h1 := ih (fun i hi => h i (by omega))
    have h2 := h n (by omega)
    have h3 : ((n + 1 : Nat) : Int) * c = n * c + c := by rw [Int.natCast_add, Int.add_mul]; simp
    unfold zsum
    omega
/-- a loop of N rounds with an invariant, then the post of what the last round does -/
theorem zw_loop {σ τ : Type} {F : (σ → Option τ) → σ → Option τ} {Q : τ → Prop} (I : Nat → σ → Prop) (N : Nat) (hs : ∀ i, i < N → ∀ s, I i s → ∃ s', I (i + 1) s' ∧ ∀ rec, F rec s = rec s') {k : Nat} {s : σ} (hk : N < k) (h0 : I 0 s) (hx : ∀ s, I N s → ∀ rec, zw (F rec s) Q) : zw (zfix F k s) Q := by
  obtain ⟨s', m, h1, e⟩ := zfix_inv I N hs k 0 s (Nat.zero_le _) (by omega) h0
  rw [e]
  exact hx s' h1 _
/-- a loop that may stop in any round: by a measure -/
theorem zw_loopm {σ τ : Type} {F : (σ → Option τ) → σ → Option τ} {Q : τ → Prop} (I : σ → Prop) (μ : σ → Nat) (hs : ∀ s, I s → ∀ rec, (∀ s', I s' → μ s' < μ s → zw (rec s') Q) → zw (F rec s) Q) : ∀ (k : Nat) (s : σ), μ s < k → I s → zw (zfix F k s) Q := by
  intro k
  induction k with
  | zero => intro s hk; omega
  | succ k ih =>
    intro s hk hI
    exact hs s hI _ (fun s' hI' hm => ih s' (by omega) hI')
/-! the primitives, with places as nI i -/
theorem pz_ix {i L : Nat} (h : i < L) (hL : L ≤ 100000) : ¬ (nI i < 0 ∨ L ≤ (nI i).toNatClampNeg) := nI_in h (by omega)
theorem pz_ldI {S : zS} {M : zH} {a i L : Nat} (hk : sK S a = 12) (hn : sN S a = L) (hi : i < L) (hL : L ≤ 100000) : zldI S M a (nI i) = some (mI M a i) := by
  unfold zldI; rw [hk, hn, if_pos ⟨rfl, pz_ix hi hL⟩, nI_clamp (by omega)]
theorem pz_ldZ {S : zS} {M : zH} {a i L : Nat} (hk : sK S a = 13) (hn : sN S a = L) (hi : i < L) (hL : L ≤ 100000) : zldZ S M a (nI i) = some (mI M a i) := by
  unfold zldZ; rw [hk, hn, if_pos ⟨rfl, pz_ix hi hL⟩, nI_clamp (by omega)]
theorem pz_ldB {S : zS} {M : zH} {a i L : Nat} (hk : sK S a = 14) (hn : sN S a = L) (hi : i < L) (hL : L ≤ 100000) : zldB S M a (nI i) = some (mI M a i) := by
  unfold zldB; rw [hk, hn, if_pos ⟨rfl, pz_ix hi hL⟩, nI_clamp (by omega)]
theorem pz_ldJ {S : zS} {M : zH} {a i L : Nat} (hk : sK S a = 15) (hn : sN S a = L) (hi : i < L) (hL : L ≤ 100000) : zldJ S M a (nI i) = some (mJ M a i) := by
  unfold zldJ; rw [hk, hn, if_pos ⟨rfl, pz_ix hi hL⟩, nI_clamp (by omega)]
theorem pz_ldR {S : zS} {M : zH} {c a i L : Nat} (hk : sK S a = c) (hn : sN S a = L) (hi : i < L) (hL : L ≤ 100000) : zldR S M c a (nI i) = some (mR M a i) := by
  unfold zldR; rw [hk, hn, if_pos ⟨rfl, pz_ix hi hL⟩, nI_clamp (by omega)]
theorem pz_stI {S : zS} {M : zH} {a i L : Nat} {x : Int32} (hk : sK S a = 12) (hn : sN S a = L) (hi : i < L) (hL : L ≤ 100000) : zstI S M a (nI i) x = some (setI M a i x) := by
  unfold zstI; rw [hk, hn, if_pos ⟨rfl, pz_ix hi hL⟩, nI_clamp (by omega)]
theorem pz_nz (b : Bool) : vp_nar .boolean (bI b) = bI b := by cases b <;> rfl
theorem pz_stZ {S : zS} {M : zH} {a i L : Nat} {x : Int32} (hk : sK S a = 13) (hn : sN S a = L) (hi : i < L) (hL : L ≤ 100000) : zstZ S M a (nI i) x = some (setI M a i (vp_nar .boolean x)) := by
  unfold zstZ; rw [hk, hn, if_pos ⟨rfl, pz_ix hi hL⟩, nI_clamp (by omega)]
theorem pz_stB {S : zS} {M : zH} {a i L : Nat} {x : Int32} (hk : sK S a = 14) (hn : sN S a = L) (hi : i < L) (hL : L ≤ 100000) : zstB S M a (nI i) x = some (setI M a i (vp_nar .byte x)) := by
  unfold zstB; rw [hk, hn, if_pos ⟨rfl, pz_ix hi hL⟩, nI_clamp (by omega)]
theorem pz_stJ {S : zS} {M : zH} {a i L : Nat} {x : Int64} (hk : sK S a = 15) (hn : sN S a = L) (hi : i < L) (hL : L ≤ 100000) : zstJ S M a (nI i) x = some (setJ M a i x) := by
  unfold zstJ; rw [hk, hn, if_pos ⟨rfl, pz_ix hi hL⟩, nI_clamp (by omega)]
theorem pz_gI {S : zS} {M : zH} {a c f : Nat} (hk : sK S a = c) : zgI S M a c f = some (mI M a f) := if_pos hk
theorem pz_gJ {S : zS} {M : zH} {a c f : Nat} (hk : sK S a = c) : zgJ S M a c f = some (mJ M a f) := if_pos hk
theorem pz_gR {S : zS} {a c f b : Nat} (hk : sK S a = c) (hf : sF S a f = some b) : zgR S a c f = some b := by unfold zgR; rw [if_pos hk, hf]
theorem pz_pI {S : zS} {M : zH} {a c f : Nat} {x : Int32} (hk : sK S a = c) : zpI S M a c f x = some (setI M a f x) := if_pos hk
theorem pz_pZ {S : zS} {M : zH} {a c f : Nat} {x : Int32} (hk : sK S a = c) (hx : x = 0 ∨ x = 1) : zpZ S M a c f x = some (setI M a f x) := if_pos ⟨hk, hx⟩
theorem pz_pJ {S : zS} {M : zH} {a c f : Nat} {x : Int64} (hk : sK S a = c) : zpJ S M a c f x = some (setJ M a f x) := if_pos hk
theorem pz_ck {S : zS} {a c : Nat} (hk : sK S a = c) : zck S a c = some () := if_pos hk
theorem pz_len {S : zS} {a c L : Nat} (hk : sK S a = c) (hn : sN S a = L) : zlen S c a = some (nI L) := by unfold zlen; rw [if_pos hk, hn]
/-! what was written is read -/
theorem mI_s {M : zH} {a i : Nat} {v : Int32} : mI (setI M a i v) a i = v := by simp [setI, mI]
theorem mI_a {M : zH} {a i b j : Nat} {v : Int32} (h : b ≠ a) : mI (setI M a i v) b j = mI M b j := by simp [setI, mI, h]
theorem mI_i {M : zH} {a i b j : Nat} {v : Int32} (h : j ≠ i) : mI (setI M a i v) b j = mI M b j := by simp [setI, mI, h]
theorem mI_ite {M : zH} {a i b j : Nat} {v : Int32} : mI (setI M a i v) b j = if b = a ∧ j = i then v else mI M b j := rfl
theorem mJ_setI {M : zH} {a i : Nat} {v : Int32} : mJ (setI M a i v) = mJ M := rfl
theorem mR_setI {M : zH} {a i : Nat} {v : Int32} : mR (setI M a i v) = mR M := rfl
theorem mI_setJ {M : zH} {a i : Nat} {v : Int64} : mI (setJ M a i v) = mI M := rfl
theorem mR_setJ {M : zH} {a i : Nat} {v : Int64} : mR (setJ M a i v) = mR M := rfl
theorem mI_setR {M : zH} {a i : Nat} {v : Option Nat} : mI (setR M a i v) = mI M := rfl
theorem mJ_setR {M : zH} {a i : Nat} {v : Option Nat} : mJ (setR M a i v) = mJ M := rfl
theorem mJ_ite {M : zH} {a i b j : Nat} {v : Int64} : mJ (setJ M a i v) b j = if b = a ∧ j = i then v else mJ M b j := rfl
theorem mR_ite {M : zH} {a i b j : Nat} {v : Option Nat} : mR (setR M a i v) b j = if b = a ∧ j = i then v else mR M b j := rfl
/-- M' is M but where X is -/
def zAg (X : Nat → Nat → Prop) (M M' : zH) : Prop := ∀ b j, ¬ X b j → mI M' b j = mI M b j ∧ mJ M' b j = mJ M b j ∧ mR M' b j = mR M b j
theorem zAg.rfl' {X : Nat → Nat → Prop} {M : zH} : zAg X M M := fun _ _ _ => ⟨rfl, rfl, rfl⟩
theorem zAg.trans {X : Nat → Nat → Prop} {M M1 M2 : zH} (h1 : zAg X M M1) (h2 : zAg X M1 M2) : zAg X M M2 := fun b j hx => ⟨(h2 b j hx).1.trans (h1 b j hx).1, (h2 b j hx).2.1.trans (h1 b j hx).2.1, (h2 b j hx).2.2.trans (h1 b j hx).2.2⟩
theorem zAg.mono {X X' : Nat → Nat → Prop} {M M1 : zH} (h1 : zAg X M M1) (h : ∀ b j, X b j → X' b j) : zAg X' M M1 := fun b j hx => h1 b j (fun q => hx (h b j q))
theorem zAg.setI {X : Nat → Nat → Prop} {M M1 : zH} {a i : Nat} {v : Int32} (h1 : zAg X M M1) (hx : X a i) : zAg X M (setI M1 a i v) := fun b j h => by
  refine ⟨?_, (h1 b j h).2.1, (h1 b j h).2.2⟩
  rw [mI_ite, if_neg (fun q => h (by rw [q.1, q.2]; exact hx))]
  exact (h1 b j h).1
theorem zAg.setJ {X : Nat → Nat → Prop} {M M1 : zH} {a i : Nat} {v : Int64} (h1 : zAg X M M1) (hx : X a i) : zAg X M (setJ M1 a i v) := fun b j h => by
  refine ⟨(h1 b j h).1, ?_, (h1 b j h).2.2⟩
  rw [mJ_ite, if_neg (fun q => h (by rw [q.1, q.2]; exact hx))]
  exact (h1 b j h).2.1
theorem zAg.setR {X : Nat → Nat → Prop} {M M1 : zH} {a i : Nat} {v : Option Nat} (h1 : zAg X M M1) (hx : X a i) : zAg X M (setR M1 a i v) := fun b j h => by
  refine ⟨(h1 b j h).1, (h1 b j h).2.1, ?_⟩
  rw [mR_ite, if_neg (fun q => h (by rw [q.1, q.2]; exact hx))]
  exact (h1 b j h).2.2
/-! small methods of the JDK -/
theorem s_max (n : Nat) (E : zE) (S : zS) (x y : Int32) (M : zH) : F_Jm_max n E S x y M = some (if x < y then y else x, M) := by
  unfold F_Jm_max
  by_cases h : x < y
  · rw [if_pos h, if_pos h]
  · rw [if_neg h, if_neg h]
theorem s_min (n : Nat) (E : zE) (S : zS) (x y : Int32) (M : zH) : F_Jm_min n E S x y M = some (if y < x then y else x, M) := by
  unfold F_Jm_min
  by_cases h : y < x
  · rw [if_pos h, if_pos h]
  · rw [if_neg h, if_neg h]
theorem s_within (n : Nat) (E : zE) (S : zS) (x a b : Int32) (M : zH) : F_NC_within n E S x a b M = some (decide (a ≤ x ∧ x ≤ b), M) := by
  unfold F_NC_within
  by_cases h : x < a
  · rw [if_pos h]
    have : ¬ (a ≤ x ∧ x ≤ b) := fun q => absurd q.1 (Int32.not_le.mpr h)
    simp [this]
  · rw [if_neg h]
    by_cases h2 : b < x
    · rw [if_pos h2]
      have : ¬ (a ≤ x ∧ x ≤ b) := fun q => absurd q.2 (Int32.not_le.mpr h2)
      simp [this]
    · rw [if_neg h2]
      have : a ≤ x ∧ x ≤ b := ⟨Int32.not_lt.mp h, Int32.not_lt.mp h2⟩
      simp [this]
